abbrev rmX7_found : Room := { frames := 0, cells := 0, slots := 0, locals := 0 }
theorem iX7_found_7 : ∀ w ∈ u_ws RX7 TX7 10, w ∈ wsX7_found := fun w h => List.mem_cons_of_mem _ (List.mem_append_right _ h)
noncomputable def fX7_found  (x1 : Int32) (M : Mem) : Option (Int32 × Mem) := (ck (inb x1 7) (ck (inb x1 7) (wm (wr M 56 (ix x1) ((M 56 (ix x1)) + 1)) fun M1 => (some ((-1000001) - x1, M1)))))
set_option maxHeartbeats 4000000 in
set_option maxRecDepth 100000 in
theorem mtX7_found (E : EV) (l : Launch)   (x1 : Int32) (M : Mem) : CT E l yX7_found wsX7_found rmX7_found vI [.ref (eA E 0), .int x1] (fX7_found x1 M) M := by
  refine ct_of (cc := cX7_found) (nL := 2) (ret := (some .int)) (by decide +kernel) rfl (Nat.le_of_ble_eq_true rfl) ?_
  show ZZ E l RX7 cX7_found 2 (some .int) wsX7_found rmX7_found vI (fX7_found x1 M) M [(0, .ref (eA E 0)), (1, .int x1)] 0 []
  unfold fX7_found
  refine zz_aload_n (npc := 1) 0 rfl rfl dX7_found_0 rfl ?_
  refine zz_getR (npc := 4) (i := 8) (C0 := RX7) (T := TX7) (N := 10) (by decide) (by rfl) rfl (by decide) iX7_found_7 (List.mem_of_getElem? (i := 1) rfl) rfl dX7_found_1 rfl ?_
  refine zz_iload_n (npc := 5) 1 rfl rfl dX7_found_4 rfl ?_
  refine zz_dup2 (npc := 6) rfl rfl dX7_found_5 rfl ?_
  refine zz_iald (npc := 7) (by decide) (by rfl) dX7_found_6 rfl ?_
  refine zz_iconst (npc := 8) 1 (by decide) dX7_found_7 rfl ?_
  refine zz_iadd (npc := 9) dX7_found_8 rfl ?_
  refine zz_iast (npc := 10) (by decide) (by rfl) dX7_found_9 rfl (fun M1 => ?_)
  refine zz_ldcw (npc := 13) (-1000001) (List.mem_of_getElem? (i := 2) rfl) dX7_found_10 rfl ?_
  refine zz_iload_n (npc := 14) 1 rfl rfl dX7_found_13 rfl ?_
  refine zz_isub (npc := 15) dX7_found_14 rfl ?_
  exact zz_iret dX7_found_15
abbrev rmX7_person : Room := { frames := 2, cells := 0, slots := 0, locals := 41 }
theorem iX7_person_7 : ∀ w ∈ u_ws RX7 TX7 10, w ∈ wsX7_person := fun w h => List.mem_cons_of_mem _ (List.mem_append_left _ (List.mem_append_right _ h))
noncomputable def fX7_person  (x1 : Int32) (M : Mem) : Option (Int32 × Mem) := (bd (fX7_isWithin x1 6 M) fun r2 M1 => (if r2 = 0 then (bd (fX7_found 0 M1) fun r10 M9 => (some (r10, M9))) else (bd (fX1_isFull 1 M1) fun r4 M3 => (if r4 = 0 then (bd (fX1_add 1 x1 M3) fun r6 M5 => (some (r6, M5))) else (bd (fX7_found 1 M3) fun r8 M7 => (some (r8, M7)))))))
set_option maxHeartbeats 4000000 in
set_option maxRecDepth 100000 in
theorem mtX7_person (E : EV) (l : Launch)   (x1 : Int32) (M : Mem) : CT E l yX7_person wsX7_person rmX7_person vI [.ref (eA E 0), .int x1] (fX7_person x1 M) M := by
  refine ct_of (cc := cX7_person) (nL := 2) (ret := (some .int)) (by decide +kernel) rfl (Nat.le_of_ble_eq_true rfl) ?_
  show ZZ E l RX7 cX7_person 2 (some .int) wsX7_person rmX7_person vI (fX7_person x1 M) M [(0, .ref (eA E 0)), (1, .int x1)] 0 []
  unfold fX7_person
  refine zz_iload_n (npc := 1) 1 rfl rfl dX7_person_0 rfl ?_
  refine zz_bipush (npc := 3) 6 (by decide) dX7_person_1 rfl ?_
  refine zz_callSi (npc := 6) (n := 2) (As := [.int x1, .int 6]) gX7_person_X7_isWithin rfl rfl rfl (by decide +kernel) ⟨Nat.le_of_ble_eq_true rfl, Nat.le_of_ble_eq_true rfl⟩ rfl rfl (Nat.le_of_ble_eq_true rfl) (mtX7_isWithin E l  x1 6 M) dX7_person_3 rfl (fun r2 M1 _ => ?_)
  refine zz_if_ne (tgt := 15) (npc := 9) dX7_person_6 (by decide) rfl ?_ ?_
  · refine zz_aload_n (npc := 16) 0 rfl rfl dX7_person_15 rfl ?_
    refine zz_getR (npc := 19) (i := 0) (C0 := RX7) (T := TX7) (N := 10) (by decide) (by rfl) rfl (by decide) iX7_person_7 (List.mem_of_getElem? (i := 1) rfl) rfl dX7_person_16 rfl ?_
    refine zz_callVi (npc := 22) (n := 0) (As := []) (by decide) (by rfl) rfl gX7_person_X1_isFull rfl rfl rfl (by decide +kernel) ⟨Nat.le_of_ble_eq_true rfl, Nat.le_of_ble_eq_true rfl⟩ rfl rfl (Nat.le_of_ble_eq_true rfl) (mtX1_isFull E l 1 ld_c1  M1) dX7_person_19 rfl (fun r4 M3 _ => ?_)
    refine zz_if_eq (tgt := 31) (npc := 25) dX7_person_22 (by decide) rfl ?_ ?_
    · refine zz_aload_n (npc := 32) 0 rfl rfl dX7_person_31 rfl ?_
      refine zz_getR (npc := 35) (i := 0) (C0 := RX7) (T := TX7) (N := 10) (by decide) (by rfl) rfl (by decide) iX7_person_7 (List.mem_of_getElem? (i := 1) rfl) rfl dX7_person_32 rfl ?_
      refine zz_iload_n (npc := 36) 1 rfl rfl dX7_person_35 rfl ?_
      refine zz_callVi (npc := 39) (n := 1) (As := [.int x1]) (by decide) (by rfl) rfl gX7_person_X1_add rfl rfl rfl (by decide +kernel) ⟨Nat.le_of_ble_eq_true rfl, Nat.le_of_ble_eq_true rfl⟩ rfl rfl (Nat.le_of_ble_eq_true rfl) (mtX1_add E l 1 ld_c1 x1 M3) dX7_person_36 rfl (fun r6 M5 _ => ?_)
      exact zz_iret dX7_person_39
    · refine zz_aload_n (npc := 26) 0 rfl rfl dX7_person_25 rfl ?_
      refine zz_iconst (npc := 27) 1 (by decide) dX7_person_26 rfl ?_
      refine zz_callVi (npc := 30) (n := 1) (As := [.int 1]) (by decide) (by rfl) rfl gX7_person_X7_found rfl rfl rfl (by decide +kernel) ⟨Nat.le_of_ble_eq_true rfl, Nat.le_of_ble_eq_true rfl⟩ rfl rfl (Nat.le_of_ble_eq_true rfl) (mtX7_found E l  1 M3) dX7_person_27 rfl (fun r8 M7 _ => ?_)
      exact zz_iret dX7_person_30
  · refine zz_aload_n (npc := 10) 0 rfl rfl dX7_person_9 rfl ?_
    refine zz_iconst (npc := 11) 0 (by decide) dX7_person_10 rfl ?_
    refine zz_callVi (npc := 14) (n := 1) (As := [.int 0]) (by decide) (by rfl) rfl gX7_person_X7_found rfl rfl rfl (by decide +kernel) ⟨Nat.le_of_ble_eq_true rfl, Nat.le_of_ble_eq_true rfl⟩ rfl rfl (Nat.le_of_ble_eq_true rfl) (mtX7_found E l  0 M1) dX7_person_11 rfl (fun r10 M9 _ => ?_)
    exact zz_iret dX7_person_14
abbrev rmX7_of : Room := { frames := 3, cells := 0, slots := 0, locals := 71 }
theorem iX7_of_1 : ∀ w ∈ u_ws RX1 TX1 12, w ∈ wsX7_of := fun w h => List.mem_cons_of_mem _ (List.mem_append_right _ h)
theorem iX7_of_7 : ∀ w ∈ u_ws RX7 TX7 10, w ∈ wsX7_of := fun w h => List.mem_cons_of_mem _ (List.mem_append_left _ (List.mem_append_right _ h))
noncomputable def fX7_of  (x1 : Int32) (x2 : Int32) (M : Mem) : Option (Int32 × Mem) := (bd (fX1_isPerson 1 x1 M) fun r2 M1 => (if r2 = 0 then (bd (fX7_found 0 M1) fun r12 M11 => (some (r12, M11))) else (if x2 = 0 then (ck (inb x1 8) (some (M1 2 (ix x1), M1))) else (if x2 = 1 then (ck (inb x1 8) (some (M1 3 (ix x1), M1))) else (if x2 = 2 then (ck (inb x1 8) (some (M1 4 (ix x1), M1))) else (if x2 = 3 then (ck (inb x1 8) (some (M1 5 (ix x1), M1))) else (if x2 = 4 then (ck (inb x1 8) (some (M1 6 (ix x1), M1))) else (if x2 = 5 then (if 16 ≤ (M1 1 8) then (some (0, M1)) else (bd (fX1_claimOf 1 x1 (M1 1 8) M1) fun r4 M3 => (some (r4, M3)))) else (if x2 = 6 then (bd (fX1_havers 1 M1) fun r6 M5 => (bd (fX7_bit r6 x1 M5) fun r8 M7 => (some (r8, M7)))) else (bd (fX7_found 0 M1) fun r10 M9 => (some (r10, M9))))))))))))
set_option maxHeartbeats 4000000 in
set_option maxRecDepth 100000 in
theorem mtX7_of (E : EV) (l : Launch)   (x1 : Int32) (x2 : Int32) (M : Mem) : CT E l yX7_of wsX7_of rmX7_of vI [.ref (eA E 0), .int x1, .int x2] (fX7_of x1 x2 M) M := by
  refine ct_of (cc := cX7_of) (nL := 3) (ret := (some .int)) (by decide +kernel) rfl (Nat.le_of_ble_eq_true rfl) ?_
  show ZZ E l RX7 cX7_of 3 (some .int) wsX7_of rmX7_of vI (fX7_of x1 x2 M) M [(0, .ref (eA E 0)), (1, .int x1), (2, .int x2)] 0 []
  unfold fX7_of
  refine zz_aload_n (npc := 1) 0 rfl rfl dX7_of_0 rfl ?_
  refine zz_getR (npc := 4) (i := 0) (C0 := RX7) (T := TX7) (N := 10) (by decide) (by rfl) rfl (by decide) iX7_of_7 (List.mem_of_getElem? (i := 1) rfl) rfl dX7_of_1 rfl ?_
  refine zz_iload_n (npc := 5) 1 rfl rfl dX7_of_4 rfl ?_
  refine zz_callVi (npc := 8) (n := 1) (As := [.int x1]) (by decide) (by rfl) rfl gX7_of_X1_isPerson rfl rfl rfl (by decide +kernel) ⟨Nat.le_of_ble_eq_true rfl, Nat.le_of_ble_eq_true rfl⟩ rfl rfl (Nat.le_of_ble_eq_true rfl) (mtX1_isPerson E l 1 ld_c1 x1 M) dX7_of_5 rfl (fun r2 M1 _ => ?_)
  refine zz_if_ne (tgt := 17) (npc := 11) dX7_of_8 (by decide) rfl ?_ ?_
  · refine zz_iload_n (npc := 18) 2 rfl rfl dX7_of_17 rfl ?_
    refine zz_tcase (npc := 0) (off := 42) (tgt := 60) 0 dX7_of_18 (by decide) (by decide) (by decide) (by decide) (fun _ => ?_) (fun q18_0 => ?_)
    · refine zz_aload_n (npc := 61) 0 rfl rfl dX7_of_60 rfl ?_
      refine zz_getR (npc := 64) (i := 0) (C0 := RX7) (T := TX7) (N := 10) (by decide) (by rfl) rfl (by decide) iX7_of_7 (List.mem_of_getElem? (i := 1) rfl) rfl dX7_of_61 rfl ?_
      refine zz_getR (npc := 67) (i := 0) (C0 := RX1) (T := TX1) (N := 12) (by decide) (by rfl) rfl (by decide) iX7_of_1 (List.mem_of_getElem? (i := 2) rfl) rfl dX7_of_64 rfl ?_
      refine zz_iload_n (npc := 68) 1 rfl rfl dX7_of_67 rfl ?_
      refine zz_iald (npc := 69) (by decide) (by rfl) dX7_of_68 rfl ?_
      exact zz_iret dX7_of_69
    refine zz_tcase (npc := 0) (off := 52) (tgt := 70) 1 dX7_of_18 (by decide) (by decide) (by decide) (by decide) (fun _ => ?_) (fun q18_1 => ?_)
    · refine zz_aload_n (npc := 71) 0 rfl rfl dX7_of_70 rfl ?_
      refine zz_getR (npc := 74) (i := 0) (C0 := RX7) (T := TX7) (N := 10) (by decide) (by rfl) rfl (by decide) iX7_of_7 (List.mem_of_getElem? (i := 1) rfl) rfl dX7_of_71 rfl ?_
      refine zz_getR (npc := 77) (i := 1) (C0 := RX1) (T := TX1) (N := 12) (by decide) (by rfl) rfl (by decide) iX7_of_1 (List.mem_of_getElem? (i := 3) rfl) rfl dX7_of_74 rfl ?_
      refine zz_iload_n (npc := 78) 1 rfl rfl dX7_of_77 rfl ?_
      refine zz_iald (npc := 79) (by decide) (by rfl) dX7_of_78 rfl ?_
      exact zz_iret dX7_of_79
    refine zz_tcase (npc := 0) (off := 62) (tgt := 80) 2 dX7_of_18 (by decide) (by decide) (by decide) (by decide) (fun _ => ?_) (fun q18_2 => ?_)
    · refine zz_aload_n (npc := 81) 0 rfl rfl dX7_of_80 rfl ?_
      refine zz_getR (npc := 84) (i := 0) (C0 := RX7) (T := TX7) (N := 10) (by decide) (by rfl) rfl (by decide) iX7_of_7 (List.mem_of_getElem? (i := 1) rfl) rfl dX7_of_81 rfl ?_
      refine zz_getR (npc := 87) (i := 2) (C0 := RX1) (T := TX1) (N := 12) (by decide) (by rfl) rfl (by decide) iX7_of_1 (List.mem_of_getElem? (i := 4) rfl) rfl dX7_of_84 rfl ?_
      refine zz_iload_n (npc := 88) 1 rfl rfl dX7_of_87 rfl ?_
      refine zz_iald (npc := 89) (by decide) (by rfl) dX7_of_88 rfl ?_
      exact zz_iret dX7_of_89
    refine zz_tcase (npc := 0) (off := 72) (tgt := 90) 3 dX7_of_18 (by decide) (by decide) (by decide) (by decide) (fun _ => ?_) (fun q18_3 => ?_)
    · refine zz_aload_n (npc := 91) 0 rfl rfl dX7_of_90 rfl ?_
      refine zz_getR (npc := 94) (i := 0) (C0 := RX7) (T := TX7) (N := 10) (by decide) (by rfl) rfl (by decide) iX7_of_7 (List.mem_of_getElem? (i := 1) rfl) rfl dX7_of_91 rfl ?_
      refine zz_getR (npc := 97) (i := 3) (C0 := RX1) (T := TX1) (N := 12) (by decide) (by rfl) rfl (by decide) iX7_of_1 (List.mem_of_getElem? (i := 5) rfl) rfl dX7_of_94 rfl ?_
      refine zz_iload_n (npc := 98) 1 rfl rfl dX7_of_97 rfl ?_
      refine zz_iald (npc := 99) (by decide) (by rfl) dX7_of_98 rfl ?_
      exact zz_iret dX7_of_99
    refine zz_tcase (npc := 0) (off := 82) (tgt := 100) 4 dX7_of_18 (by decide) (by decide) (by decide) (by decide) (fun _ => ?_) (fun q18_4 => ?_)
    · refine zz_aload_n (npc := 101) 0 rfl rfl dX7_of_100 rfl ?_
      refine zz_getR (npc := 104) (i := 0) (C0 := RX7) (T := TX7) (N := 10) (by decide) (by rfl) rfl (by decide) iX7_of_7 (List.mem_of_getElem? (i := 1) rfl) rfl dX7_of_101 rfl ?_
      refine zz_getR (npc := 107) (i := 4) (C0 := RX1) (T := TX1) (N := 12) (by decide) (by rfl) rfl (by decide) iX7_of_1 (List.mem_of_getElem? (i := 6) rfl) rfl dX7_of_104 rfl ?_
      refine zz_iload_n (npc := 108) 1 rfl rfl dX7_of_107 rfl ?_
      refine zz_iald (npc := 109) (by decide) (by rfl) dX7_of_108 rfl ?_
      exact zz_iret dX7_of_109
    refine zz_tcase (npc := 0) (off := 92) (tgt := 110) 5 dX7_of_18 (by decide) (by decide) (by decide) (by decide) (fun _ => ?_) (fun q18_5 => ?_)
    · refine zz_aload_n (npc := 111) 0 rfl rfl dX7_of_110 rfl ?_
      refine zz_getR (npc := 114) (i := 0) (C0 := RX7) (T := TX7) (N := 10) (by decide) (by rfl) rfl (by decide) iX7_of_7 (List.mem_of_getElem? (i := 1) rfl) rfl dX7_of_111 rfl ?_
      refine zz_getI (npc := 117) (i := 8) (C0 := RX1) (T := TX1) (N := 12) (by decide) (by rfl) rfl (by decide) iX7_of_1 (List.mem_of_getElem? (i := 7) rfl) rfl dX7_of_114 rfl ?_
      refine zz_bipush (npc := 119) 16 (by decide) dX7_of_117 rfl ?_
      refine zz_icmp_ge (tgt := 140) (npc := 122) dX7_of_119 (by decide) rfl ?_ ?_
      · refine zz_iconst (npc := 141) 0 (by decide) dX7_of_140 rfl ?_
        exact zz_iret dX7_of_141
      · refine zz_aload_n (npc := 123) 0 rfl rfl dX7_of_122 rfl ?_
        refine zz_getR (npc := 126) (i := 0) (C0 := RX7) (T := TX7) (N := 10) (by decide) (by rfl) rfl (by decide) iX7_of_7 (List.mem_of_getElem? (i := 1) rfl) rfl dX7_of_123 rfl ?_
        refine zz_iload_n (npc := 127) 1 rfl rfl dX7_of_126 rfl ?_
        refine zz_aload_n (npc := 128) 0 rfl rfl dX7_of_127 rfl ?_
        refine zz_getR (npc := 131) (i := 0) (C0 := RX7) (T := TX7) (N := 10) (by decide) (by rfl) rfl (by decide) iX7_of_7 (List.mem_of_getElem? (i := 1) rfl) rfl dX7_of_128 rfl ?_
        refine zz_getI (npc := 134) (i := 8) (C0 := RX1) (T := TX1) (N := 12) (by decide) (by rfl) rfl (by decide) iX7_of_1 (List.mem_of_getElem? (i := 7) rfl) rfl dX7_of_131 rfl ?_
        refine zz_callVi (npc := 137) (n := 2) (As := [.int x1, .int (M1 1 8)]) (by decide) (by rfl) rfl gX7_of_X1_claimOf rfl rfl rfl (by decide +kernel) ⟨Nat.le_of_ble_eq_true rfl, Nat.le_of_ble_eq_true rfl⟩ rfl rfl (Nat.le_of_ble_eq_true rfl) (mtX1_claimOf E l 1 ld_c1 x1 (M1 1 8) M1) dX7_of_134 rfl (fun r4 M3 _ => ?_)
        refine zz_goto (npc := 0) (tgt := 141) dX7_of_137 (by decide) ?_
        exact zz_iret dX7_of_141
    refine zz_tcase (npc := 0) (off := 124) (tgt := 142) 6 dX7_of_18 (by decide) (by decide) (by decide) (by decide) (fun _ => ?_) (fun q18_6 => ?_)
    · refine zz_aload_n (npc := 143) 0 rfl rfl dX7_of_142 rfl ?_
      refine zz_getR (npc := 146) (i := 0) (C0 := RX7) (T := TX7) (N := 10) (by decide) (by rfl) rfl (by decide) iX7_of_7 (List.mem_of_getElem? (i := 1) rfl) rfl dX7_of_143 rfl ?_
      refine zz_callVi (npc := 149) (n := 0) (As := []) (by decide) (by rfl) rfl gX7_of_X1_havers rfl rfl rfl (by decide +kernel) ⟨Nat.le_of_ble_eq_true rfl, Nat.le_of_ble_eq_true rfl⟩ rfl rfl (Nat.le_of_ble_eq_true rfl) (mtX1_havers E l 1 ld_c1  M1) dX7_of_146 rfl (fun r6 M5 _ => ?_)
      refine zz_iload_n (npc := 150) 1 rfl rfl dX7_of_149 rfl ?_
      refine zz_callSi (npc := 153) (n := 2) (As := [.int r6, .int x1]) gX7_of_X7_bit rfl rfl rfl (by decide +kernel) ⟨Nat.le_of_ble_eq_true rfl, Nat.le_of_ble_eq_true rfl⟩ rfl rfl (Nat.le_of_ble_eq_true rfl) (mtX7_bit E l  r6 x1 M5) dX7_of_150 rfl (fun r8 M7 _ => ?_)
      exact zz_iret dX7_of_153
    refine zz_tdef (npc := 0) (tgt := 154) dX7_of_18 (td_r _ 0 6 (by decide) (by intro k h1 h2; rcases (show k = 0 ∨ k = 1 ∨ k = 2 ∨ k = 3 ∨ k = 4 ∨ k = 5 ∨ k = 6 by omega) with rfl | rfl | rfl | rfl | rfl | rfl | rfl <;> first | exact q18_0 | exact q18_1 | exact q18_2 | exact q18_3 | exact q18_4 | exact q18_5 | exact q18_6)) (by decide) ?_
    refine zz_aload_n (npc := 155) 0 rfl rfl dX7_of_154 rfl ?_
    refine zz_iconst (npc := 156) 0 (by decide) dX7_of_155 rfl ?_
    refine zz_callVi (npc := 159) (n := 1) (As := [.int 0]) (by decide) (by rfl) rfl gX7_of_X7_found rfl rfl rfl (by decide +kernel) ⟨Nat.le_of_ble_eq_true rfl, Nat.le_of_ble_eq_true rfl⟩ rfl rfl (Nat.le_of_ble_eq_true rfl) (mtX7_found E l  0 M1) dX7_of_156 rfl (fun r10 M9 _ => ?_)
    exact zz_iret dX7_of_159
  · refine zz_aload_n (npc := 12) 0 rfl rfl dX7_of_11 rfl ?_
    refine zz_iconst (npc := 13) 0 (by decide) dX7_of_12 rfl ?_
    refine zz_callVi (npc := 16) (n := 1) (As := [.int 0]) (by decide) (by rfl) rfl gX7_of_X7_found rfl rfl rfl (by decide +kernel) ⟨Nat.le_of_ble_eq_true rfl, Nat.le_of_ble_eq_true rfl⟩ rfl rfl (Nat.le_of_ble_eq_true rfl) (mtX7_found E l  0 M1) dX7_of_13 rfl (fun r12 M11 _ => ?_)
    exact zz_iret dX7_of_16
abbrev rmX7_replace : Room := { frames := 1, cells := 0, slots := 0, locals := 21 }
noncomputable def fX7_replace (d1 : Nat) (x2 : Int32) (x3 : Int32) (x4 : Int32) (M : Mem) : Option (Int32 × Mem) := (bd (fX7_isWithin x3 x4 M) fun r2 M1 => (if r2 = 0 then (bd (fX7_found 0 M1) fun r6 M5 => (some (r6, M5))) else (ck (inb x2 8) (bv (M1 d1 (ix x2)) fun v3 => (ck (inb x2 8) (wm (wr M1 d1 (ix x2) x3) fun M4 => (some (v3, M4))))))))
set_option maxHeartbeats 4000000 in
set_option maxRecDepth 100000 in
theorem mtX7_replace (E : EV) (l : Launch) (d1 : Nat) (hd1 : d1 < NC ∧ lay d1 = (1, 8, [])) (x2 : Int32) (x3 : Int32) (x4 : Int32) (M : Mem) : CT E l yX7_replace wsX7_replace rmX7_replace vI [.ref (eA E 0), .ref (eA E d1), .int x2, .int x3, .int x4] (fX7_replace d1 x2 x3 x4 M) M := by
  refine ct_of (cc := cX7_replace) (nL := 6) (ret := (some .int)) (by decide +kernel) rfl (Nat.le_of_ble_eq_true rfl) ?_
  show ZZ E l RX7 cX7_replace 6 (some .int) wsX7_replace rmX7_replace vI (fX7_replace d1 x2 x3 x4 M) M [(0, .ref (eA E 0)), (1, .ref (eA E d1)), (2, .int x2), (3, .int x3), (4, .int x4)] 0 []
  unfold fX7_replace
  refine zz_iload_n (npc := 1) 3 rfl rfl dX7_replace_0 rfl ?_
  refine zz_iload (npc := 3) 4 rfl dX7_replace_1 rfl ?_
  refine zz_callSi (npc := 6) (n := 2) (As := [.int x3, .int x4]) gX7_replace_X7_isWithin rfl rfl rfl (by decide +kernel) ⟨Nat.le_of_ble_eq_true rfl, Nat.le_of_ble_eq_true rfl⟩ rfl rfl (Nat.le_of_ble_eq_true rfl) (mtX7_isWithin E l  x3 x4 M) dX7_replace_3 rfl (fun r2 M1 _ => ?_)
  refine zz_if_ne (tgt := 15) (npc := 9) dX7_replace_6 (by decide) rfl ?_ ?_
  · refine zz_aload_n (npc := 16) 1 rfl rfl dX7_replace_15 rfl ?_
    refine zz_iload_n (npc := 17) 2 rfl rfl dX7_replace_16 rfl ?_
    refine zz_iald (npc := 18) hd1.1 hd1.2 dX7_replace_17 rfl ?_
    refine zz_istoreB (npc := 20) (lv1 := fun v3 => [(5, .int v3), (0, .ref (eA E 0)), (1, .ref (eA E d1)), (2, .int x2), (3, .int x3), (4, .int x4)]) dX7_replace_18 rfl (by decide) (fun _ => rfl) (fun v3 => ?_)
    refine zz_aload_n (npc := 21) 2 rfl rfl dX7_replace_20 rfl ?_
    refine zz_iload_n (npc := 22) 3 rfl rfl dX7_replace_21 rfl ?_
    refine zz_iload_n (npc := 23) 4 rfl rfl dX7_replace_22 rfl ?_
    refine zz_iast (npc := 24) hd1.1 hd1.2 dX7_replace_23 rfl (fun M4 => ?_)
    refine zz_iload (npc := 26) 0 rfl dX7_replace_24 rfl ?_
    exact zz_iret dX7_replace_26
  · refine zz_aload_n (npc := 10) 0 rfl rfl dX7_replace_9 rfl ?_
    refine zz_iconst (npc := 11) 0 (by decide) dX7_replace_10 rfl ?_
    refine zz_callVi (npc := 14) (n := 1) (As := [.int 0]) (by decide) (by rfl) rfl gX7_replace_X7_found rfl rfl rfl (by decide +kernel) ⟨Nat.le_of_ble_eq_true rfl, Nat.le_of_ble_eq_true rfl⟩ rfl rfl (Nat.le_of_ble_eq_true rfl) (mtX7_found E l  0 M1) dX7_replace_11 rfl (fun r6 M5 _ => ?_)
    exact zz_iret dX7_replace_14
abbrev rmX7_change : Room := { frames := 2, cells := 0, slots := 0, locals := 46 }
theorem iX7_change_1 : ∀ w ∈ u_ws RX1 TX1 12, w ∈ wsX7_change := fun w h => List.mem_cons_of_mem _ (List.mem_append_right _ h)
theorem iX7_change_7 : ∀ w ∈ u_ws RX7 TX7 10, w ∈ wsX7_change := fun w h => List.mem_cons_of_mem _ (List.mem_append_left _ (List.mem_append_right _ h))
noncomputable def fX7_change  (x1 : Int32) (x2 : Int32) (x3 : Int32) (M : Mem) : Option (Int32 × Mem) := (bd (fX1_isPerson 1 x1 M) fun r2 M1 => (if r2 = 0 then (bd (fX7_found 0 M1) fun r14 M13 => (some (r14, M13))) else (if x2 = 0 then (bd (fX7_replace 2 x1 x3 6 M1) fun r4 M3 => (some (r4, M3))) else (if x2 = 1 then (bd (fX7_replace 3 x1 x3 99 M1) fun r6 M5 => (some (r6, M5))) else (if x2 = 2 then (bd (fX7_replace 4 x1 x3 9 M1) fun r8 M7 => (some (r8, M7))) else (if x2 = 3 then (bd (fX7_replace 5 x1 x3 65535 M1) fun r10 M9 => (some (r10, M9))) else (bd (fX7_found 0 M1) fun r12 M11 => (some (r12, M11)))))))))
set_option maxHeartbeats 4000000 in
set_option maxRecDepth 100000 in
theorem mtX7_change (E : EV) (l : Launch)   (x1 : Int32) (x2 : Int32) (x3 : Int32) (M : Mem) : CT E l yX7_change wsX7_change rmX7_change vI [.ref (eA E 0), .int x1, .int x2, .int x3] (fX7_change x1 x2 x3 M) M := by
  refine ct_of (cc := cX7_change) (nL := 4) (ret := (some .int)) (by decide +kernel) rfl (Nat.le_of_ble_eq_true rfl) ?_
  show ZZ E l RX7 cX7_change 4 (some .int) wsX7_change rmX7_change vI (fX7_change x1 x2 x3 M) M [(0, .ref (eA E 0)), (1, .int x1), (2, .int x2), (3, .int x3)] 0 []
  unfold fX7_change
  refine zz_aload_n (npc := 1) 0 rfl rfl dX7_change_0 rfl ?_
  refine zz_getR (npc := 4) (i := 0) (C0 := RX7) (T := TX7) (N := 10) (by decide) (by rfl) rfl (by decide) iX7_change_7 (List.mem_of_getElem? (i := 1) rfl) rfl dX7_change_1 rfl ?_
  refine zz_iload_n (npc := 5) 1 rfl rfl dX7_change_4 rfl ?_
  refine zz_callVi (npc := 8) (n := 1) (As := [.int x1]) (by decide) (by rfl) rfl gX7_change_X1_isPerson rfl rfl rfl (by decide +kernel) ⟨Nat.le_of_ble_eq_true rfl, Nat.le_of_ble_eq_true rfl⟩ rfl rfl (Nat.le_of_ble_eq_true rfl) (mtX1_isPerson E l 1 ld_c1 x1 M) dX7_change_5 rfl (fun r2 M1 _ => ?_)
  refine zz_if_ne (tgt := 17) (npc := 11) dX7_change_8 (by decide) rfl ?_ ?_
  · refine zz_iload_n (npc := 18) 2 rfl rfl dX7_change_17 rfl ?_
    refine zz_tcase (npc := 0) (off := 30) (tgt := 48) 0 dX7_change_18 (by decide) (by decide) (by decide) (by decide) (fun _ => ?_) (fun q18_0 => ?_)
    · refine zz_aload_n (npc := 49) 0 rfl rfl dX7_change_48 rfl ?_
      refine zz_aload_n (npc := 50) 0 rfl rfl dX7_change_49 rfl ?_
      refine zz_getR (npc := 53) (i := 0) (C0 := RX7) (T := TX7) (N := 10) (by decide) (by rfl) rfl (by decide) iX7_change_7 (List.mem_of_getElem? (i := 1) rfl) rfl dX7_change_50 rfl ?_
      refine zz_getR (npc := 56) (i := 0) (C0 := RX1) (T := TX1) (N := 12) (by decide) (by rfl) rfl (by decide) iX7_change_1 (List.mem_of_getElem? (i := 2) rfl) rfl dX7_change_53 rfl ?_
      refine zz_iload_n (npc := 57) 1 rfl rfl dX7_change_56 rfl ?_
      refine zz_iload_n (npc := 58) 3 rfl rfl dX7_change_57 rfl ?_
      refine zz_bipush (npc := 60) 6 (by decide) dX7_change_58 rfl ?_
      refine zz_callVi (npc := 63) (n := 4) (As := [.ref (eA E 2), .int x1, .int x3, .int 6]) (by decide) (by rfl) rfl gX7_change_X7_replace rfl rfl rfl (by decide +kernel) ⟨Nat.le_of_ble_eq_true rfl, Nat.le_of_ble_eq_true rfl⟩ rfl rfl (Nat.le_of_ble_eq_true rfl) (mtX7_replace E l 2 ⟨(by decide), (by rfl)⟩ x1 x3 6 M1) dX7_change_60 rfl (fun r4 M3 _ => ?_)
      exact zz_iret dX7_change_63
    refine zz_tcase (npc := 0) (off := 46) (tgt := 64) 1 dX7_change_18 (by decide) (by decide) (by decide) (by decide) (fun _ => ?_) (fun q18_1 => ?_)
    · refine zz_aload_n (npc := 65) 0 rfl rfl dX7_change_64 rfl ?_
      refine zz_aload_n (npc := 66) 0 rfl rfl dX7_change_65 rfl ?_
      refine zz_getR (npc := 69) (i := 0) (C0 := RX7) (T := TX7) (N := 10) (by decide) (by rfl) rfl (by decide) iX7_change_7 (List.mem_of_getElem? (i := 1) rfl) rfl dX7_change_66 rfl ?_
      refine zz_getR (npc := 72) (i := 1) (C0 := RX1) (T := TX1) (N := 12) (by decide) (by rfl) rfl (by decide) iX7_change_1 (List.mem_of_getElem? (i := 3) rfl) rfl dX7_change_69 rfl ?_
      refine zz_iload_n (npc := 73) 1 rfl rfl dX7_change_72 rfl ?_
      refine zz_iload_n (npc := 74) 3 rfl rfl dX7_change_73 rfl ?_
      refine zz_bipush (npc := 76) 99 (by decide) dX7_change_74 rfl ?_
      refine zz_callVi (npc := 79) (n := 4) (As := [.ref (eA E 3), .int x1, .int x3, .int 99]) (by decide) (by rfl) rfl gX7_change_X7_replace rfl rfl rfl (by decide +kernel) ⟨Nat.le_of_ble_eq_true rfl, Nat.le_of_ble_eq_true rfl⟩ rfl rfl (Nat.le_of_ble_eq_true rfl) (mtX7_replace E l 3 ⟨(by decide), (by rfl)⟩ x1 x3 99 M1) dX7_change_76 rfl (fun r6 M5 _ => ?_)
      exact zz_iret dX7_change_79
    refine zz_tcase (npc := 0) (off := 62) (tgt := 80) 2 dX7_change_18 (by decide) (by decide) (by decide) (by decide) (fun _ => ?_) (fun q18_2 => ?_)
    · refine zz_aload_n (npc := 81) 0 rfl rfl dX7_change_80 rfl ?_
      refine zz_aload_n (npc := 82) 0 rfl rfl dX7_change_81 rfl ?_
      refine zz_getR (npc := 85) (i := 0) (C0 := RX7) (T := TX7) (N := 10) (by decide) (by rfl) rfl (by decide) iX7_change_7 (List.mem_of_getElem? (i := 1) rfl) rfl dX7_change_82 rfl ?_
      refine zz_getR (npc := 88) (i := 2) (C0 := RX1) (T := TX1) (N := 12) (by decide) (by rfl) rfl (by decide) iX7_change_1 (List.mem_of_getElem? (i := 4) rfl) rfl dX7_change_85 rfl ?_
      refine zz_iload_n (npc := 89) 1 rfl rfl dX7_change_88 rfl ?_
      refine zz_iload_n (npc := 90) 3 rfl rfl dX7_change_89 rfl ?_
      refine zz_bipush (npc := 92) 9 (by decide) dX7_change_90 rfl ?_
      refine zz_callVi (npc := 95) (n := 4) (As := [.ref (eA E 4), .int x1, .int x3, .int 9]) (by decide) (by rfl) rfl gX7_change_X7_replace rfl rfl rfl (by decide +kernel) ⟨Nat.le_of_ble_eq_true rfl, Nat.le_of_ble_eq_true rfl⟩ rfl rfl (Nat.le_of_ble_eq_true rfl) (mtX7_replace E l 4 ⟨(by decide), (by rfl)⟩ x1 x3 9 M1) dX7_change_92 rfl (fun r8 M7 _ => ?_)
      exact zz_iret dX7_change_95
    refine zz_tcase (npc := 0) (off := 78) (tgt := 96) 3 dX7_change_18 (by decide) (by decide) (by decide) (by decide) (fun _ => ?_) (fun q18_3 => ?_)
    · refine zz_aload_n (npc := 97) 0 rfl rfl dX7_change_96 rfl ?_
      refine zz_aload_n (npc := 98) 0 rfl rfl dX7_change_97 rfl ?_
      refine zz_getR (npc := 101) (i := 0) (C0 := RX7) (T := TX7) (N := 10) (by decide) (by rfl) rfl (by decide) iX7_change_7 (List.mem_of_getElem? (i := 1) rfl) rfl dX7_change_98 rfl ?_
      refine zz_getR (npc := 104) (i := 3) (C0 := RX1) (T := TX1) (N := 12) (by decide) (by rfl) rfl (by decide) iX7_change_1 (List.mem_of_getElem? (i := 5) rfl) rfl dX7_change_101 rfl ?_
      refine zz_iload_n (npc := 105) 1 rfl rfl dX7_change_104 rfl ?_
      refine zz_iload_n (npc := 106) 3 rfl rfl dX7_change_105 rfl ?_
      refine zz_ldc (npc := 108) 65535 (List.mem_of_getElem? (i := 6) rfl) dX7_change_106 rfl ?_
      refine zz_callVi (npc := 111) (n := 4) (As := [.ref (eA E 5), .int x1, .int x3, .int 65535]) (by decide) (by rfl) rfl gX7_change_X7_replace rfl rfl rfl (by decide +kernel) ⟨Nat.le_of_ble_eq_true rfl, Nat.le_of_ble_eq_true rfl⟩ rfl rfl (Nat.le_of_ble_eq_true rfl) (mtX7_replace E l 5 ⟨(by decide), (by rfl)⟩ x1 x3 65535 M1) dX7_change_108 rfl (fun r10 M9 _ => ?_)
      exact zz_iret dX7_change_111
    refine zz_tdef (npc := 0) (tgt := 112) dX7_change_18 (td_r _ 0 3 (by decide) (by intro k h1 h2; rcases (show k = 0 ∨ k = 1 ∨ k = 2 ∨ k = 3 by omega) with rfl | rfl | rfl | rfl <;> first | exact q18_0 | exact q18_1 | exact q18_2 | exact q18_3)) (by decide) ?_
    refine zz_aload_n (npc := 113) 0 rfl rfl dX7_change_112 rfl ?_
    refine zz_iconst (npc := 114) 0 (by decide) dX7_change_113 rfl ?_
    refine zz_callVi (npc := 117) (n := 1) (As := [.int 0]) (by decide) (by rfl) rfl gX7_change_X7_found rfl rfl rfl (by decide +kernel) ⟨Nat.le_of_ble_eq_true rfl, Nat.le_of_ble_eq_true rfl⟩ rfl rfl (Nat.le_of_ble_eq_true rfl) (mtX7_found E l  0 M1) dX7_change_114 rfl (fun r12 M11 _ => ?_)
    exact zz_iret dX7_change_117
  · refine zz_aload_n (npc := 12) 0 rfl rfl dX7_change_11 rfl ?_
    refine zz_iconst (npc := 13) 0 (by decide) dX7_change_12 rfl ?_
    refine zz_callVi (npc := 16) (n := 1) (As := [.int 0]) (by decide) (by rfl) rfl gX7_change_X7_found rfl rfl rfl (by decide +kernel) ⟨Nat.le_of_ble_eq_true rfl, Nat.le_of_ble_eq_true rfl⟩ rfl rfl (Nat.le_of_ble_eq_true rfl) (mtX7_found E l  0 M1) dX7_change_13 rfl (fun r14 M13 _ => ?_)
    exact zz_iret dX7_change_16
abbrev rmX7_share : Room := { frames := 3, cells := 0, slots := 0, locals := 65 }
theorem iX7_share_1 : ∀ w ∈ u_ws RX1 TX1 12, w ∈ wsX7_share := fun w h => List.mem_cons_of_mem _ (List.mem_append_right _ h)
theorem iX7_share_7 : ∀ w ∈ u_ws RX7 TX7 10, w ∈ wsX7_share := fun w h => List.mem_cons_of_mem _ (List.mem_append_left _ (List.mem_append_right _ h))
noncomputable def fX7_share  (x1 : Int32) (x2 : Int32) (M : Mem) : Option (Int32 × Mem) := (bd (fX1_areTwo 1 x1 x2 M) fun r2 M1 => (if r2 = 0 then (bd (fX7_found 0 M1) fun r5 M4 => (some (r5, M4))) else (ck (inb x1 8) (if (M1 6 (ix x1)) = x2 then (some (0, M1)) else (bd (fX1_join 1 x1 x2 M1) fun _ M3 => (some (1, M3)))))))
set_option maxHeartbeats 4000000 in
set_option maxRecDepth 100000 in
theorem mtX7_share (E : EV) (l : Launch)   (x1 : Int32) (x2 : Int32) (M : Mem) : CT E l yX7_share wsX7_share rmX7_share vI [.ref (eA E 0), .int x1, .int x2] (fX7_share x1 x2 M) M := by
  refine ct_of (cc := cX7_share) (nL := 3) (ret := (some .int)) (by decide +kernel) rfl (Nat.le_of_ble_eq_true rfl) ?_
  show ZZ E l RX7 cX7_share 3 (some .int) wsX7_share rmX7_share vI (fX7_share x1 x2 M) M [(0, .ref (eA E 0)), (1, .int x1), (2, .int x2)] 0 []
  unfold fX7_share
  refine zz_aload_n (npc := 1) 0 rfl rfl dX7_share_0 rfl ?_
  refine zz_getR (npc := 4) (i := 0) (C0 := RX7) (T := TX7) (N := 10) (by decide) (by rfl) rfl (by decide) iX7_share_7 (List.mem_of_getElem? (i := 1) rfl) rfl dX7_share_1 rfl ?_
  refine zz_iload_n (npc := 5) 1 rfl rfl dX7_share_4 rfl ?_
  refine zz_iload_n (npc := 6) 2 rfl rfl dX7_share_5 rfl ?_
  refine zz_callVi (npc := 9) (n := 2) (As := [.int x1, .int x2]) (by decide) (by rfl) rfl gX7_share_X1_areTwo rfl rfl rfl (by decide +kernel) ⟨Nat.le_of_ble_eq_true rfl, Nat.le_of_ble_eq_true rfl⟩ rfl rfl (Nat.le_of_ble_eq_true rfl) (mtX1_areTwo E l 1 ld_c1 x1 x2 M) dX7_share_6 rfl (fun r2 M1 _ => ?_)
  refine zz_if_ne (tgt := 18) (npc := 12) dX7_share_9 (by decide) rfl ?_ ?_
  · refine zz_aload_n (npc := 19) 0 rfl rfl dX7_share_18 rfl ?_
    refine zz_getR (npc := 22) (i := 0) (C0 := RX7) (T := TX7) (N := 10) (by decide) (by rfl) rfl (by decide) iX7_share_7 (List.mem_of_getElem? (i := 1) rfl) rfl dX7_share_19 rfl ?_
    refine zz_getR (npc := 25) (i := 4) (C0 := RX1) (T := TX1) (N := 12) (by decide) (by rfl) rfl (by decide) iX7_share_1 (List.mem_of_getElem? (i := 2) rfl) rfl dX7_share_22 rfl ?_
    refine zz_iload_n (npc := 26) 1 rfl rfl dX7_share_25 rfl ?_
    refine zz_iald (npc := 27) (by decide) (by rfl) dX7_share_26 rfl ?_
    refine zz_iload_n (npc := 28) 2 rfl rfl dX7_share_27 rfl ?_
    refine zz_icmp_ne (tgt := 33) (npc := 31) dX7_share_28 (by decide) rfl ?_ ?_
    · refine zz_aload_n (npc := 34) 0 rfl rfl dX7_share_33 rfl ?_
      refine zz_getR (npc := 37) (i := 0) (C0 := RX7) (T := TX7) (N := 10) (by decide) (by rfl) rfl (by decide) iX7_share_7 (List.mem_of_getElem? (i := 1) rfl) rfl dX7_share_34 rfl ?_
      refine zz_iload_n (npc := 38) 1 rfl rfl dX7_share_37 rfl ?_
      refine zz_iload_n (npc := 39) 2 rfl rfl dX7_share_38 rfl ?_
      refine zz_callVv (npc := 42) (n := 2) (As := [.int x1, .int x2]) (by decide) (by rfl) rfl gX7_share_X1_join rfl rfl rfl (by decide +kernel) ⟨Nat.le_of_ble_eq_true rfl, Nat.le_of_ble_eq_true rfl⟩ rfl rfl (Nat.le_of_ble_eq_true rfl) (mtX1_join E l 1 ld_c1 x1 x2 M1) dX7_share_39 rfl (fun _ M3 _ => ?_)
      refine zz_iconst (npc := 43) 1 (by decide) dX7_share_42 rfl ?_
      exact zz_iret dX7_share_43
    · refine zz_iconst (npc := 32) 0 (by decide) dX7_share_31 rfl ?_
      exact zz_iret dX7_share_32
  · refine zz_aload_n (npc := 13) 0 rfl rfl dX7_share_12 rfl ?_
    refine zz_iconst (npc := 14) 0 (by decide) dX7_share_13 rfl ?_
    refine zz_callVi (npc := 17) (n := 1) (As := [.int 0]) (by decide) (by rfl) rfl gX7_share_X7_found rfl rfl rfl (by decide +kernel) ⟨Nat.le_of_ble_eq_true rfl, Nat.le_of_ble_eq_true rfl⟩ rfl rfl (Nat.le_of_ble_eq_true rfl) (mtX7_found E l  0 M1) dX7_share_14 rfl (fun r5 M4 _ => ?_)
    exact zz_iret dX7_share_17
abbrev rmX7_part : Room := { frames := 2, cells := 0, slots := 0, locals := 42 }
theorem iX7_part_1 : ∀ w ∈ u_ws RX1 TX1 12, w ∈ wsX7_part := fun w h => List.mem_cons_of_mem _ (List.mem_append_right _ h)
theorem iX7_part_7 : ∀ w ∈ u_ws RX7 TX7 10, w ∈ wsX7_part := fun w h => List.mem_cons_of_mem _ (List.mem_append_left _ (List.mem_append_right _ h))
noncomputable def fX7_part  (x1 : Int32) (M : Mem) : Option (Int32 × Mem) := (bd (fX1_isPerson 1 x1 M) fun r2 M1 => (if r2 = 0 then (bd (fX7_found 0 M1) fun r8 M7 => (some (r8, M7))) else (ck (inb x1 8) (bv (M1 6 (ix x1)) fun v3 => (if v3 = (-1) then (bd (fX7_found 3 M1) fun r6 M5 => (some (r6, M5))) else (bd (fX1_separate 1 x1 M1) fun _ M4 => (some (v3, M4))))))))
set_option maxHeartbeats 4000000 in
set_option maxRecDepth 100000 in
theorem mtX7_part (E : EV) (l : Launch)   (x1 : Int32) (M : Mem) : CT E l yX7_part wsX7_part rmX7_part vI [.ref (eA E 0), .int x1] (fX7_part x1 M) M := by
  refine ct_of (cc := cX7_part) (nL := 3) (ret := (some .int)) (by decide +kernel) rfl (Nat.le_of_ble_eq_true rfl) ?_
  show ZZ E l RX7 cX7_part 3 (some .int) wsX7_part rmX7_part vI (fX7_part x1 M) M [(0, .ref (eA E 0)), (1, .int x1)] 0 []
  unfold fX7_part
  refine zz_aload_n (npc := 1) 0 rfl rfl dX7_part_0 rfl ?_
  refine zz_getR (npc := 4) (i := 0) (C0 := RX7) (T := TX7) (N := 10) (by decide) (by rfl) rfl (by decide) iX7_part_7 (List.mem_of_getElem? (i := 1) rfl) rfl dX7_part_1 rfl ?_
  refine zz_iload_n (npc := 5) 1 rfl rfl dX7_part_4 rfl ?_
  refine zz_callVi (npc := 8) (n := 1) (As := [.int x1]) (by decide) (by rfl) rfl gX7_part_X1_isPerson rfl rfl rfl (by decide +kernel) ⟨Nat.le_of_ble_eq_true rfl, Nat.le_of_ble_eq_true rfl⟩ rfl rfl (Nat.le_of_ble_eq_true rfl) (mtX1_isPerson E l 1 ld_c1 x1 M) dX7_part_5 rfl (fun r2 M1 _ => ?_)
  refine zz_if_ne (tgt := 17) (npc := 11) dX7_part_8 (by decide) rfl ?_ ?_
  · refine zz_aload_n (npc := 18) 0 rfl rfl dX7_part_17 rfl ?_
    refine zz_getR (npc := 21) (i := 0) (C0 := RX7) (T := TX7) (N := 10) (by decide) (by rfl) rfl (by decide) iX7_part_7 (List.mem_of_getElem? (i := 1) rfl) rfl dX7_part_18 rfl ?_
    refine zz_getR (npc := 24) (i := 4) (C0 := RX1) (T := TX1) (N := 12) (by decide) (by rfl) rfl (by decide) iX7_part_1 (List.mem_of_getElem? (i := 2) rfl) rfl dX7_part_21 rfl ?_
    refine zz_iload_n (npc := 25) 1 rfl rfl dX7_part_24 rfl ?_
    refine zz_iald (npc := 26) (by decide) (by rfl) dX7_part_25 rfl ?_
    refine zz_istore_nB (npc := 27) (lv1 := fun v3 => [(2, .int v3), (0, .ref (eA E 0)), (1, .int x1)]) rfl dX7_part_26 rfl (by decide) (fun _ => rfl) (fun v3 => ?_)
    refine zz_iload_n (npc := 28) 0 rfl rfl dX7_part_27 rfl ?_
    refine zz_iconst (npc := 29) (-1) (by decide) dX7_part_28 rfl ?_
    refine zz_icmp_ne (tgt := 38) (npc := 32) dX7_part_29 (by decide) rfl ?_ ?_
    · refine zz_aload_n (npc := 39) 1 rfl rfl dX7_part_38 rfl ?_
      refine zz_getR (npc := 42) (i := 0) (C0 := RX7) (T := TX7) (N := 10) (by decide) (by rfl) rfl (by decide) iX7_part_7 (List.mem_of_getElem? (i := 1) rfl) rfl dX7_part_39 rfl ?_
      refine zz_iload_n (npc := 43) 2 rfl rfl dX7_part_42 rfl ?_
      refine zz_callVv (npc := 46) (n := 1) (As := [.int x1]) (by decide) (by rfl) rfl gX7_part_X1_separate rfl rfl rfl (by decide +kernel) ⟨Nat.le_of_ble_eq_true rfl, Nat.le_of_ble_eq_true rfl⟩ rfl rfl (Nat.le_of_ble_eq_true rfl) (mtX1_separate E l 1 ld_c1 x1 M1) dX7_part_43 rfl (fun _ M4 _ => ?_)
      refine zz_iload_n (npc := 47) 0 rfl rfl dX7_part_46 rfl ?_
      exact zz_iret dX7_part_47
    · refine zz_aload_n (npc := 33) 1 rfl rfl dX7_part_32 rfl ?_
      refine zz_iconst (npc := 34) 3 (by decide) dX7_part_33 rfl ?_
      refine zz_callVi (npc := 37) (n := 1) (As := [.int 3]) (by decide) (by rfl) rfl gX7_part_X7_found rfl rfl rfl (by decide +kernel) ⟨Nat.le_of_ble_eq_true rfl, Nat.le_of_ble_eq_true rfl⟩ rfl rfl (Nat.le_of_ble_eq_true rfl) (mtX7_found E l  3 M1) dX7_part_34 rfl (fun r6 M5 _ => ?_)
      exact zz_iret dX7_part_37
  · refine zz_aload_n (npc := 12) 0 rfl rfl dX7_part_11 rfl ?_
    refine zz_iconst (npc := 13) 0 (by decide) dX7_part_12 rfl ?_
    refine zz_callVi (npc := 16) (n := 1) (As := [.int 0]) (by decide) (by rfl) rfl gX7_part_X7_found rfl rfl rfl (by decide +kernel) ⟨Nat.le_of_ble_eq_true rfl, Nat.le_of_ble_eq_true rfl⟩ rfl rfl (Nat.le_of_ble_eq_true rfl) (mtX7_found E l  0 M1) dX7_part_13 rfl (fun r8 M7 _ => ?_)
    exact zz_iret dX7_part_16
abbrev rmX7_light : Room := { frames := 1, cells := 0, slots := 0, locals := 21 }
theorem iX7_light_1 : ∀ w ∈ u_ws RX1 TX1 12, w ∈ wsX7_light := fun w h => List.mem_cons_of_mem _ (List.mem_append_right _ h)
theorem iX7_light_7 : ∀ w ∈ u_ws RX7 TX7 10, w ∈ wsX7_light := fun w h => List.mem_cons_of_mem _ (List.mem_append_left _ (List.mem_append_right _ h))
noncomputable def fX7_light  (x1 : Int32) (M : Mem) : Option (Int32 × Mem) := (bd (fX7_isWithin x1 65535 M) fun r2 M1 => (if r2 = 0 then (bd (fX7_found 0 M1) fun r6 M5 => (some (r6, M5))) else (bv (M1 1 7) fun v3 => (wm (wr M1 1 7 x1) fun M4 => (some (v3, M4))))))
set_option maxHeartbeats 4000000 in
set_option maxRecDepth 100000 in
theorem mtX7_light (E : EV) (l : Launch)   (x1 : Int32) (M : Mem) : CT E l yX7_light wsX7_light rmX7_light vI [.ref (eA E 0), .int x1] (fX7_light x1 M) M := by
  refine ct_of (cc := cX7_light) (nL := 3) (ret := (some .int)) (by decide +kernel) rfl (Nat.le_of_ble_eq_true rfl) ?_
  show ZZ E l RX7 cX7_light 3 (some .int) wsX7_light rmX7_light vI (fX7_light x1 M) M [(0, .ref (eA E 0)), (1, .int x1)] 0 []
  unfold fX7_light
  refine zz_iload_n (npc := 1) 1 rfl rfl dX7_light_0 rfl ?_
  refine zz_ldc (npc := 3) 65535 (List.mem_of_getElem? (i := 1) rfl) dX7_light_1 rfl ?_
  refine zz_callSi (npc := 6) (n := 2) (As := [.int x1, .int 65535]) gX7_light_X7_isWithin rfl rfl rfl (by decide +kernel) ⟨Nat.le_of_ble_eq_true rfl, Nat.le_of_ble_eq_true rfl⟩ rfl rfl (Nat.le_of_ble_eq_true rfl) (mtX7_isWithin E l  x1 65535 M) dX7_light_3 rfl (fun r2 M1 _ => ?_)
  refine zz_if_ne (tgt := 15) (npc := 9) dX7_light_6 (by decide) rfl ?_ ?_
  · refine zz_aload_n (npc := 16) 0 rfl rfl dX7_light_15 rfl ?_
    refine zz_getR (npc := 19) (i := 0) (C0 := RX7) (T := TX7) (N := 10) (by decide) (by rfl) rfl (by decide) iX7_light_7 (List.mem_of_getElem? (i := 2) rfl) rfl dX7_light_16 rfl ?_
    refine zz_getI (npc := 22) (i := 7) (C0 := RX1) (T := TX1) (N := 12) (by decide) (by rfl) rfl (by decide) iX7_light_1 (List.mem_of_getElem? (i := 3) rfl) rfl dX7_light_19 rfl ?_
    refine zz_istore_nB (npc := 23) (lv1 := fun v3 => [(2, .int v3), (0, .ref (eA E 0)), (1, .int x1)]) rfl dX7_light_22 rfl (by decide) (fun _ => rfl) (fun v3 => ?_)
    refine zz_aload_n (npc := 24) 1 rfl rfl dX7_light_23 rfl ?_
    refine zz_getR (npc := 27) (i := 0) (C0 := RX7) (T := TX7) (N := 10) (by decide) (by rfl) rfl (by decide) iX7_light_7 (List.mem_of_getElem? (i := 2) rfl) rfl dX7_light_24 rfl ?_
    refine zz_iload_n (npc := 28) 2 rfl rfl dX7_light_27 rfl ?_
    refine zz_putI (npc := 31) (i := 7) (C0 := RX1) (T := TX1) (N := 12) (by decide) (by rfl) rfl (by decide) iX7_light_1 (List.mem_of_getElem? (i := 3) rfl) tyX1_ok nmX1 rfl rfl rfl dX7_light_28 rfl (fun M4 => ?_)
    refine zz_iload_n (npc := 32) 0 rfl rfl dX7_light_31 rfl ?_
    exact zz_iret dX7_light_32
  · refine zz_aload_n (npc := 10) 0 rfl rfl dX7_light_9 rfl ?_
    refine zz_iconst (npc := 11) 0 (by decide) dX7_light_10 rfl ?_
    refine zz_callVi (npc := 14) (n := 1) (As := [.int 0]) (by decide) (by rfl) rfl gX7_light_X7_found rfl rfl rfl (by decide +kernel) ⟨Nat.le_of_ble_eq_true rfl, Nat.le_of_ble_eq_true rfl⟩ rfl rfl (Nat.le_of_ble_eq_true rfl) (mtX7_found E l  0 M1) dX7_light_11 rfl (fun r6 M5 _ => ?_)
    exact zz_iret dX7_light_14
abbrev rmX7_claim : Room := { frames := 1, cells := 0, slots := 0, locals := 24 }
theorem iX7_claim_7 : ∀ w ∈ u_ws RX7 TX7 10, w ∈ wsX7_claim := fun w h => List.mem_cons_of_mem _ (List.mem_append_left _ (List.mem_append_right _ h))
noncomputable def fX7_claim_L20    (M : Mem) : Option (Int32 × Mem) := (bd (fX7_found 0 M) fun r8 M7 => (some (r8, M7)))
set_option maxHeartbeats 4000000 in
set_option maxRecDepth 100000 in
theorem zX7_claim_L20 (E : EV) (l : Launch)     : ∀  (M : Mem), ZZ E l RX7 cX7_claim 3 (some .int) wsX7_claim rmX7_claim vI (fX7_claim_L20 M) M [(0, .ref (eA E 0))] 20 [] := by
  intro M
  unfold fX7_claim_L20
  refine zz_aload_n (npc := 21) 0 rfl rfl dX7_claim_20 rfl ?_
  refine zz_iconst (npc := 22) 0 (by decide) dX7_claim_21 rfl ?_
  refine zz_callVi (npc := 25) (n := 1) (As := [.int 0]) (by decide) (by rfl) rfl gX7_claim_X7_found rfl rfl rfl (by decide +kernel) ⟨Nat.le_of_ble_eq_true rfl, Nat.le_of_ble_eq_true rfl⟩ rfl rfl (Nat.le_of_ble_eq_true rfl) (mtX7_found E l  0 M) dX7_claim_22 rfl (fun r8 M7 _ => ?_)
  exact zz_iret dX7_claim_25
noncomputable def fX7_claim  (x1 : Int32) (x2 : Int32) (M : Mem) : Option (Int32 × Mem) := (bd (fX1_isPerson 1 x1 M) fun r2 M1 => (if r2 = 0 then (fX7_claim_L20  M1) else (bd (fX7_isWithin x2 15 M1) fun r4 M3 => (if r4 = 0 then (fX7_claim_L20  M3) else (bd (fX1_claimOf 1 x1 x2 M3) fun r6 M5 => (some (r6, M5)))))))
set_option maxHeartbeats 4000000 in
set_option maxRecDepth 100000 in
theorem mtX7_claim (E : EV) (l : Launch)   (x1 : Int32) (x2 : Int32) (M : Mem) : CT E l yX7_claim wsX7_claim rmX7_claim vI [.ref (eA E 0), .int x1, .int x2] (fX7_claim x1 x2 M) M := by
  refine ct_of (cc := cX7_claim) (nL := 3) (ret := (some .int)) (by decide +kernel) rfl (Nat.le_of_ble_eq_true rfl) ?_
  show ZZ E l RX7 cX7_claim 3 (some .int) wsX7_claim rmX7_claim vI (fX7_claim x1 x2 M) M [(0, .ref (eA E 0)), (1, .int x1), (2, .int x2)] 0 []
  unfold fX7_claim
  refine zz_aload_n (npc := 1) 0 rfl rfl dX7_claim_0 rfl ?_
  refine zz_getR (npc := 4) (i := 0) (C0 := RX7) (T := TX7) (N := 10) (by decide) (by rfl) rfl (by decide) iX7_claim_7 (List.mem_of_getElem? (i := 1) rfl) rfl dX7_claim_1 rfl ?_
  refine zz_iload_n (npc := 5) 1 rfl rfl dX7_claim_4 rfl ?_
  refine zz_callVi (npc := 8) (n := 1) (As := [.int x1]) (by decide) (by rfl) rfl gX7_claim_X1_isPerson rfl rfl rfl (by decide +kernel) ⟨Nat.le_of_ble_eq_true rfl, Nat.le_of_ble_eq_true rfl⟩ rfl rfl (Nat.le_of_ble_eq_true rfl) (mtX1_isPerson E l 1 ld_c1 x1 M) dX7_claim_5 rfl (fun r2 M1 _ => ?_)
  refine zz_if_eq (tgt := 20) (npc := 11) dX7_claim_8 (by decide) rfl ?_ ?_
  · refine zz_sub (npc := 0) (lv1 := [(0, .ref (eA E 0))]) [0] rfl ?_
    exact zX7_claim_L20 E l  M1
  · refine zz_iload_n (npc := 12) 2 rfl rfl dX7_claim_11 rfl ?_
    refine zz_bipush (npc := 14) 15 (by decide) dX7_claim_12 rfl ?_
    refine zz_callSi (npc := 17) (n := 2) (As := [.int x2, .int 15]) gX7_claim_X7_isWithin rfl rfl rfl (by decide +kernel) ⟨Nat.le_of_ble_eq_true rfl, Nat.le_of_ble_eq_true rfl⟩ rfl rfl (Nat.le_of_ble_eq_true rfl) (mtX7_isWithin E l  x2 15 M1) dX7_claim_14 rfl (fun r4 M3 _ => ?_)
    refine zz_if_ne (tgt := 26) (npc := 20) dX7_claim_17 (by decide) rfl ?_ ?_
    · refine zz_aload_n (npc := 27) 0 rfl rfl dX7_claim_26 rfl ?_
      refine zz_getR (npc := 30) (i := 0) (C0 := RX7) (T := TX7) (N := 10) (by decide) (by rfl) rfl (by decide) iX7_claim_7 (List.mem_of_getElem? (i := 1) rfl) rfl dX7_claim_27 rfl ?_
      refine zz_iload_n (npc := 31) 1 rfl rfl dX7_claim_30 rfl ?_
      refine zz_iload_n (npc := 32) 2 rfl rfl dX7_claim_31 rfl ?_
      refine zz_callVi (npc := 35) (n := 2) (As := [.int x1, .int x2]) (by decide) (by rfl) rfl gX7_claim_X1_claimOf rfl rfl rfl (by decide +kernel) ⟨Nat.le_of_ble_eq_true rfl, Nat.le_of_ble_eq_true rfl⟩ rfl rfl (Nat.le_of_ble_eq_true rfl) (mtX1_claimOf E l 1 ld_c1 x1 x2 M3) dX7_claim_32 rfl (fun r6 M5 _ => ?_)
      exact zz_iret dX7_claim_35
    · refine zz_sub (npc := 0) (lv1 := [(0, .ref (eA E 0))]) [0] rfl ?_
      exact zX7_claim_L20 E l  M3
abbrev rmX7_go : Room := { frames := 4, cells := 0, slots := 0, locals := 93 }
theorem iX7_go_1 : ∀ w ∈ u_ws RX1 TX1 12, w ∈ wsX7_go := fun w h => List.mem_cons_of_mem _ (List.mem_append_right _ h)
theorem iX7_go_7 : ∀ w ∈ u_ws RX7 TX7 10, w ∈ wsX7_go := fun w h => List.mem_cons_of_mem _ (List.mem_append_left _ (List.mem_append_right _ h))
noncomputable def fX7_go_L11    (M : Mem) : Option (Int32 × Mem) := (bd (fX7_found 0 M) fun r5 M4 => (some (r5, M4)))
set_option maxHeartbeats 4000000 in
set_option maxRecDepth 100000 in
theorem zX7_go_L11 (E : EV) (l : Launch)     : ∀  (M : Mem), ZZ E l RX7 cX7_go 2 (some .int) wsX7_go rmX7_go vI (fX7_go_L11 M) M [(0, .ref (eA E 0))] 11 [] := by
  intro M
  unfold fX7_go_L11
  refine zz_aload_n (npc := 12) 0 rfl rfl dX7_go_11 rfl ?_
  refine zz_iconst (npc := 13) 0 (by decide) dX7_go_12 rfl ?_
  refine zz_callVi (npc := 16) (n := 1) (As := [.int 0]) (by decide) (by rfl) rfl gX7_go_X7_found rfl rfl rfl (by decide +kernel) ⟨Nat.le_of_ble_eq_true rfl, Nat.le_of_ble_eq_true rfl⟩ rfl rfl (Nat.le_of_ble_eq_true rfl) (mtX7_found E l  0 M) dX7_go_13 rfl (fun r5 M4 _ => ?_)
  exact zz_iret dX7_go_16
noncomputable def fX7_go  (x1 : Int32) (M : Mem) : Option (Int32 × Mem) := (if x1 < 1 then (fX7_go_L11  M) else (if x1 ≤ 16 then (if x1 ≤ (16 - (M 1 8)) then (bd (fX1_passHours 1 x1 M) fun _ M1 => (some (M1 1 9, M1))) else (bd (fX7_found 4 M) fun r3 M2 => (some (r3, M2)))) else (fX7_go_L11  M)))
set_option maxHeartbeats 4000000 in
set_option maxRecDepth 100000 in
theorem mtX7_go (E : EV) (l : Launch)   (x1 : Int32) (M : Mem) : CT E l yX7_go wsX7_go rmX7_go vI [.ref (eA E 0), .int x1] (fX7_go x1 M) M := by
  refine ct_of (cc := cX7_go) (nL := 2) (ret := (some .int)) (by decide +kernel) rfl (Nat.le_of_ble_eq_true rfl) ?_
  show ZZ E l RX7 cX7_go 2 (some .int) wsX7_go rmX7_go vI (fX7_go x1 M) M [(0, .ref (eA E 0)), (1, .int x1)] 0 []
  unfold fX7_go
  refine zz_iload_n (npc := 1) 1 rfl rfl dX7_go_0 rfl ?_
  refine zz_iconst (npc := 2) 1 (by decide) dX7_go_1 rfl ?_
  refine zz_icmp_lt (tgt := 11) (npc := 5) dX7_go_2 (by decide) rfl ?_ ?_
  · refine zz_sub (npc := 0) (lv1 := [(0, .ref (eA E 0))]) [0] rfl ?_
    exact zX7_go_L11 E l  M
  · refine zz_iload_n (npc := 6) 1 rfl rfl dX7_go_5 rfl ?_
    refine zz_bipush (npc := 8) 16 (by decide) dX7_go_6 rfl ?_
    refine zz_icmp_le (tgt := 17) (npc := 11) dX7_go_8 (by decide) rfl ?_ ?_
    · refine zz_iload_n (npc := 18) 1 rfl rfl dX7_go_17 rfl ?_
      refine zz_bipush (npc := 20) 16 (by decide) dX7_go_18 rfl ?_
      refine zz_aload_n (npc := 21) 0 rfl rfl dX7_go_20 rfl ?_
      refine zz_getR (npc := 24) (i := 0) (C0 := RX7) (T := TX7) (N := 10) (by decide) (by rfl) rfl (by decide) iX7_go_7 (List.mem_of_getElem? (i := 1) rfl) rfl dX7_go_21 rfl ?_
      refine zz_getI (npc := 27) (i := 8) (C0 := RX1) (T := TX1) (N := 12) (by decide) (by rfl) rfl (by decide) iX7_go_1 (List.mem_of_getElem? (i := 2) rfl) rfl dX7_go_24 rfl ?_
      refine zz_isub (npc := 28) dX7_go_27 rfl ?_
      refine zz_icmp_le (tgt := 37) (npc := 31) dX7_go_28 (by decide) rfl ?_ ?_
      · refine zz_aload_n (npc := 38) 0 rfl rfl dX7_go_37 rfl ?_
        refine zz_getR (npc := 41) (i := 0) (C0 := RX7) (T := TX7) (N := 10) (by decide) (by rfl) rfl (by decide) iX7_go_7 (List.mem_of_getElem? (i := 1) rfl) rfl dX7_go_38 rfl ?_
        refine zz_iload_n (npc := 42) 1 rfl rfl dX7_go_41 rfl ?_
        refine zz_callVv (npc := 45) (n := 1) (As := [.int x1]) (by decide) (by rfl) rfl gX7_go_X1_passHours rfl rfl rfl (by decide +kernel) ⟨Nat.le_of_ble_eq_true rfl, Nat.le_of_ble_eq_true rfl⟩ rfl rfl (Nat.le_of_ble_eq_true rfl) (mtX1_passHours E l 1 ld_c1 x1 M) dX7_go_42 rfl (fun _ M1 _ => ?_)
        refine zz_aload_n (npc := 46) 0 rfl rfl dX7_go_45 rfl ?_
        refine zz_getR (npc := 49) (i := 0) (C0 := RX7) (T := TX7) (N := 10) (by decide) (by rfl) rfl (by decide) iX7_go_7 (List.mem_of_getElem? (i := 1) rfl) rfl dX7_go_46 rfl ?_
        refine zz_getI (npc := 52) (i := 9) (C0 := RX1) (T := TX1) (N := 12) (by decide) (by rfl) rfl (by decide) iX7_go_1 (List.mem_of_getElem? (i := 3) rfl) rfl dX7_go_49 rfl ?_
        exact zz_iret dX7_go_52
      · refine zz_aload_n (npc := 32) 0 rfl rfl dX7_go_31 rfl ?_
        refine zz_iconst (npc := 33) 4 (by decide) dX7_go_32 rfl ?_
        refine zz_callVi (npc := 36) (n := 1) (As := [.int 4]) (by decide) (by rfl) rfl gX7_go_X7_found rfl rfl rfl (by decide +kernel) ⟨Nat.le_of_ble_eq_true rfl, Nat.le_of_ble_eq_true rfl⟩ rfl rfl (Nat.le_of_ble_eq_true rfl) (mtX7_found E l  4 M) dX7_go_33 rfl (fun r3 M2 _ => ?_)
        exact zz_iret dX7_go_36
    · refine zz_sub (npc := 0) (lv1 := [(0, .ref (eA E 0))]) [0] rfl ?_
      exact zX7_go_L11 E l  M
abbrev rmX7_at : Room := { frames := 1, cells := 0, slots := 0, locals := 21 }
theorem iX7_at_1 : ∀ w ∈ u_ws RX1 TX1 12, w ∈ wsX7_at := fun w h => List.mem_cons_of_mem _ (List.mem_append_right _ h)
theorem iX7_at_7 : ∀ w ∈ u_ws RX7 TX7 10, w ∈ wsX7_at := fun w h => List.mem_cons_of_mem _ (List.mem_append_left _ (List.mem_append_right _ h))
noncomputable def fX7_at  (x1 : Int32) (M : Mem) : Option (Int32 × Mem) := (bd (fX7_isWithin x1 16 M) fun r2 M1 => (if r2 = 0 then (bd (fX7_found 0 M1) fun r6 M5 => (some (r6, M5))) else (bv (M1 1 8) fun v3 => (wm (wr M1 1 8 x1) fun M4 => (some (v3, M4))))))
set_option maxHeartbeats 4000000 in
set_option maxRecDepth 100000 in
theorem mtX7_at (E : EV) (l : Launch)   (x1 : Int32) (M : Mem) : CT E l yX7_at wsX7_at rmX7_at vI [.ref (eA E 0), .int x1] (fX7_at x1 M) M := by
  refine ct_of (cc := cX7_at) (nL := 3) (ret := (some .int)) (by decide +kernel) rfl (Nat.le_of_ble_eq_true rfl) ?_
  show ZZ E l RX7 cX7_at 3 (some .int) wsX7_at rmX7_at vI (fX7_at x1 M) M [(0, .ref (eA E 0)), (1, .int x1)] 0 []
  unfold fX7_at
  refine zz_iload_n (npc := 1) 1 rfl rfl dX7_at_0 rfl ?_
  refine zz_bipush (npc := 3) 16 (by decide) dX7_at_1 rfl ?_
  refine zz_callSi (npc := 6) (n := 2) (As := [.int x1, .int 16]) gX7_at_X7_isWithin rfl rfl rfl (by decide +kernel) ⟨Nat.le_of_ble_eq_true rfl, Nat.le_of_ble_eq_true rfl⟩ rfl rfl (Nat.le_of_ble_eq_true rfl) (mtX7_isWithin E l  x1 16 M) dX7_at_3 rfl (fun r2 M1 _ => ?_)
  refine zz_if_ne (tgt := 15) (npc := 9) dX7_at_6 (by decide) rfl ?_ ?_
  · refine zz_aload_n (npc := 16) 0 rfl rfl dX7_at_15 rfl ?_
    refine zz_getR (npc := 19) (i := 0) (C0 := RX7) (T := TX7) (N := 10) (by decide) (by rfl) rfl (by decide) iX7_at_7 (List.mem_of_getElem? (i := 1) rfl) rfl dX7_at_16 rfl ?_
    refine zz_getI (npc := 22) (i := 8) (C0 := RX1) (T := TX1) (N := 12) (by decide) (by rfl) rfl (by decide) iX7_at_1 (List.mem_of_getElem? (i := 2) rfl) rfl dX7_at_19 rfl ?_
    refine zz_istore_nB (npc := 23) (lv1 := fun v3 => [(2, .int v3), (0, .ref (eA E 0)), (1, .int x1)]) rfl dX7_at_22 rfl (by decide) (fun _ => rfl) (fun v3 => ?_)
    refine zz_aload_n (npc := 24) 1 rfl rfl dX7_at_23 rfl ?_
    refine zz_getR (npc := 27) (i := 0) (C0 := RX7) (T := TX7) (N := 10) (by decide) (by rfl) rfl (by decide) iX7_at_7 (List.mem_of_getElem? (i := 1) rfl) rfl dX7_at_24 rfl ?_
    refine zz_iload_n (npc := 28) 2 rfl rfl dX7_at_27 rfl ?_
    refine zz_putI (npc := 31) (i := 8) (C0 := RX1) (T := TX1) (N := 12) (by decide) (by rfl) rfl (by decide) iX7_at_1 (List.mem_of_getElem? (i := 2) rfl) tyX1_ok nmX1 rfl rfl rfl dX7_at_28 rfl (fun M4 => ?_)
    refine zz_iload_n (npc := 32) 0 rfl rfl dX7_at_31 rfl ?_
    exact zz_iret dX7_at_32
  · refine zz_aload_n (npc := 10) 0 rfl rfl dX7_at_9 rfl ?_
    refine zz_iconst (npc := 11) 0 (by decide) dX7_at_10 rfl ?_
    refine zz_callVi (npc := 14) (n := 1) (As := [.int 0]) (by decide) (by rfl) rfl gX7_at_X7_found rfl rfl rfl (by decide +kernel) ⟨Nat.le_of_ble_eq_true rfl, Nat.le_of_ble_eq_true rfl⟩ rfl rfl (Nat.le_of_ble_eq_true rfl) (mtX7_found E l  0 M1) dX7_at_11 rfl (fun r6 M5 _ => ?_)
    exact zz_iret dX7_at_14
abbrev rmX7_now : Room := { frames := 3, cells := 0, slots := 0, locals := 71 }
theorem iX7_now_1 : ∀ w ∈ u_ws RX1 TX1 12, w ∈ wsX7_now := fun w h => List.mem_cons_of_mem _ (List.mem_append_right _ h)
theorem iX7_now_7 : ∀ w ∈ u_ws RX7 TX7 10, w ∈ wsX7_now := fun w h => List.mem_cons_of_mem _ (List.mem_append_left _ (List.mem_append_right _ h))
noncomputable def fX7_now  (x1 : Int32) (M : Mem) : Option (Int32 × Mem) := (if x1 = 0 then (some (M 1 8, M)) else (if x1 = 1 then (some (M 1 9, M)) else (if x1 = 2 then (some (M 1 10, M)) else (if x1 = 3 then (some (M 1 7, M)) else (if x1 = 4 then (bd (fX1_havers 1 M) fun r2 M1 => (some (r2, M1))) else (bd (fX7_found 0 M) fun r4 M3 => (some (r4, M3))))))))
set_option maxHeartbeats 4000000 in
set_option maxRecDepth 100000 in
theorem mtX7_now (E : EV) (l : Launch)   (x1 : Int32) (M : Mem) : CT E l yX7_now wsX7_now rmX7_now vI [.ref (eA E 0), .int x1] (fX7_now x1 M) M := by
  refine ct_of (cc := cX7_now) (nL := 2) (ret := (some .int)) (by decide +kernel) rfl (Nat.le_of_ble_eq_true rfl) ?_
  show ZZ E l RX7 cX7_now 2 (some .int) wsX7_now rmX7_now vI (fX7_now x1 M) M [(0, .ref (eA E 0)), (1, .int x1)] 0 []
  unfold fX7_now
  refine zz_iload_n (npc := 1) 1 rfl rfl dX7_now_0 rfl ?_
  refine zz_tcase (npc := 0) (off := 35) (tgt := 36) 0 dX7_now_1 (by decide) (by decide) (by decide) (by decide) (fun _ => ?_) (fun q1_0 => ?_)
  · refine zz_aload_n (npc := 37) 0 rfl rfl dX7_now_36 rfl ?_
    refine zz_getR (npc := 40) (i := 0) (C0 := RX7) (T := TX7) (N := 10) (by decide) (by rfl) rfl (by decide) iX7_now_7 (List.mem_of_getElem? (i := 1) rfl) rfl dX7_now_37 rfl ?_
    refine zz_getI (npc := 43) (i := 8) (C0 := RX1) (T := TX1) (N := 12) (by decide) (by rfl) rfl (by decide) iX7_now_1 (List.mem_of_getElem? (i := 2) rfl) rfl dX7_now_40 rfl ?_
    exact zz_iret dX7_now_43
  refine zz_tcase (npc := 0) (off := 43) (tgt := 44) 1 dX7_now_1 (by decide) (by decide) (by decide) (by decide) (fun _ => ?_) (fun q1_1 => ?_)
  · refine zz_aload_n (npc := 45) 0 rfl rfl dX7_now_44 rfl ?_
    refine zz_getR (npc := 48) (i := 0) (C0 := RX7) (T := TX7) (N := 10) (by decide) (by rfl) rfl (by decide) iX7_now_7 (List.mem_of_getElem? (i := 1) rfl) rfl dX7_now_45 rfl ?_
    refine zz_getI (npc := 51) (i := 9) (C0 := RX1) (T := TX1) (N := 12) (by decide) (by rfl) rfl (by decide) iX7_now_1 (List.mem_of_getElem? (i := 3) rfl) rfl dX7_now_48 rfl ?_
    exact zz_iret dX7_now_51
  refine zz_tcase (npc := 0) (off := 51) (tgt := 52) 2 dX7_now_1 (by decide) (by decide) (by decide) (by decide) (fun _ => ?_) (fun q1_2 => ?_)
  · refine zz_aload_n (npc := 53) 0 rfl rfl dX7_now_52 rfl ?_
    refine zz_getR (npc := 56) (i := 0) (C0 := RX7) (T := TX7) (N := 10) (by decide) (by rfl) rfl (by decide) iX7_now_7 (List.mem_of_getElem? (i := 1) rfl) rfl dX7_now_53 rfl ?_
    refine zz_getI (npc := 59) (i := 10) (C0 := RX1) (T := TX1) (N := 12) (by decide) (by rfl) rfl (by decide) iX7_now_1 (List.mem_of_getElem? (i := 4) rfl) rfl dX7_now_56 rfl ?_
    exact zz_iret dX7_now_59
  refine zz_tcase (npc := 0) (off := 59) (tgt := 60) 3 dX7_now_1 (by decide) (by decide) (by decide) (by decide) (fun _ => ?_) (fun q1_3 => ?_)
  · refine zz_aload_n (npc := 61) 0 rfl rfl dX7_now_60 rfl ?_
    refine zz_getR (npc := 64) (i := 0) (C0 := RX7) (T := TX7) (N := 10) (by decide) (by rfl) rfl (by decide) iX7_now_7 (List.mem_of_getElem? (i := 1) rfl) rfl dX7_now_61 rfl ?_
    refine zz_getI (npc := 67) (i := 7) (C0 := RX1) (T := TX1) (N := 12) (by decide) (by rfl) rfl (by decide) iX7_now_1 (List.mem_of_getElem? (i := 5) rfl) rfl dX7_now_64 rfl ?_
    exact zz_iret dX7_now_67
  refine zz_tcase (npc := 0) (off := 67) (tgt := 68) 4 dX7_now_1 (by decide) (by decide) (by decide) (by decide) (fun _ => ?_) (fun q1_4 => ?_)
  · refine zz_aload_n (npc := 69) 0 rfl rfl dX7_now_68 rfl ?_
    refine zz_getR (npc := 72) (i := 0) (C0 := RX7) (T := TX7) (N := 10) (by decide) (by rfl) rfl (by decide) iX7_now_7 (List.mem_of_getElem? (i := 1) rfl) rfl dX7_now_69 rfl ?_
    refine zz_callVi (npc := 75) (n := 0) (As := []) (by decide) (by rfl) rfl gX7_now_X1_havers rfl rfl rfl (by decide +kernel) ⟨Nat.le_of_ble_eq_true rfl, Nat.le_of_ble_eq_true rfl⟩ rfl rfl (Nat.le_of_ble_eq_true rfl) (mtX1_havers E l 1 ld_c1  M) dX7_now_72 rfl (fun r2 M1 _ => ?_)
    exact zz_iret dX7_now_75
  refine zz_tdef (npc := 0) (tgt := 76) dX7_now_1 (td_r _ 0 4 (by decide) (by intro k h1 h2; rcases (show k = 0 ∨ k = 1 ∨ k = 2 ∨ k = 3 ∨ k = 4 by omega) with rfl | rfl | rfl | rfl | rfl <;> first | exact q1_0 | exact q1_1 | exact q1_2 | exact q1_3 | exact q1_4)) (by decide) ?_
  refine zz_aload_n (npc := 77) 0 rfl rfl dX7_now_76 rfl ?_
  refine zz_iconst (npc := 78) 0 (by decide) dX7_now_77 rfl ?_
  refine zz_callVi (npc := 81) (n := 1) (As := [.int 0]) (by decide) (by rfl) rfl gX7_now_X7_found rfl rfl rfl (by decide +kernel) ⟨Nat.le_of_ble_eq_true rfl, Nat.le_of_ble_eq_true rfl⟩ rfl rfl (Nat.le_of_ble_eq_true rfl) (mtX7_found E l  0 M) dX7_now_78 rfl (fun r4 M3 _ => ?_)
  exact zz_iret dX7_now_81
abbrev rmX7_met : Room := { frames := 5, cells := 0, slots := 0, locals := 163 }
theorem iX7_met_7 : ∀ w ∈ u_ws RX7 TX7 10, w ∈ wsX7_met := fun w h => List.mem_cons_of_mem _ (List.mem_append_left _ (List.mem_append_left _ (List.mem_append_right _ h)))
noncomputable def fX7_met  (x1 : Int32) (M : Mem) : Option (Int32 × Mem) := (bd (fX1_isPerson 1 x1 M) fun r2 M1 => (if r2 = 0 then (bd (fX7_found 0 M1) fun r7 M6 => (some (r7, M6))) else (bd (fX4_see 1 M1) fun _ M3 => (bd (fX4_metOf x1 M3) fun r5 M4 => (some (r5, M4))))))
set_option maxHeartbeats 4000000 in
set_option maxRecDepth 100000 in
theorem mtX7_met (E : EV) (l : Launch)   (x1 : Int32) (M : Mem) : CT E l yX7_met wsX7_met rmX7_met vI [.ref (eA E 0), .int x1] (fX7_met x1 M) M := by
  refine ct_of (cc := cX7_met) (nL := 2) (ret := (some .int)) (by decide +kernel) rfl (Nat.le_of_ble_eq_true rfl) ?_
  show ZZ E l RX7 cX7_met 2 (some .int) wsX7_met rmX7_met vI (fX7_met x1 M) M [(0, .ref (eA E 0)), (1, .int x1)] 0 []
  unfold fX7_met
  refine zz_aload_n (npc := 1) 0 rfl rfl dX7_met_0 rfl ?_
  refine zz_getR (npc := 4) (i := 0) (C0 := RX7) (T := TX7) (N := 10) (by decide) (by rfl) rfl (by decide) iX7_met_7 (List.mem_of_getElem? (i := 1) rfl) rfl dX7_met_1 rfl ?_
  refine zz_iload_n (npc := 5) 1 rfl rfl dX7_met_4 rfl ?_
  refine zz_callVi (npc := 8) (n := 1) (As := [.int x1]) (by decide) (by rfl) rfl gX7_met_X1_isPerson rfl rfl rfl (by decide +kernel) ⟨Nat.le_of_ble_eq_true rfl, Nat.le_of_ble_eq_true rfl⟩ rfl rfl (Nat.le_of_ble_eq_true rfl) (mtX1_isPerson E l 1 ld_c1 x1 M) dX7_met_5 rfl (fun r2 M1 _ => ?_)
  refine zz_if_ne (tgt := 17) (npc := 11) dX7_met_8 (by decide) rfl ?_ ?_
  · refine zz_aload_n (npc := 18) 0 rfl rfl dX7_met_17 rfl ?_
    refine zz_getR (npc := 21) (i := 2) (C0 := RX7) (T := TX7) (N := 10) (by decide) (by rfl) rfl (by decide) iX7_met_7 (List.mem_of_getElem? (i := 2) rfl) rfl dX7_met_18 rfl ?_
    refine zz_aload_n (npc := 22) 0 rfl rfl dX7_met_21 rfl ?_
    refine zz_getR (npc := 25) (i := 0) (C0 := RX7) (T := TX7) (N := 10) (by decide) (by rfl) rfl (by decide) iX7_met_7 (List.mem_of_getElem? (i := 1) rfl) rfl dX7_met_22 rfl ?_
    refine zz_callVv (npc := 28) (n := 1) (As := [.ref (eA E 1)]) (by decide) (by rfl) rfl gX7_met_X4_see rfl rfl rfl (by decide +kernel) ⟨Nat.le_of_ble_eq_true rfl, Nat.le_of_ble_eq_true rfl⟩ rfl rfl (Nat.le_of_ble_eq_true rfl) (mtX4_see E l 1 ld_c1  M1) dX7_met_25 rfl (fun _ M3 _ => ?_)
    refine zz_aload_n (npc := 29) 0 rfl rfl dX7_met_28 rfl ?_
    refine zz_getR (npc := 32) (i := 2) (C0 := RX7) (T := TX7) (N := 10) (by decide) (by rfl) rfl (by decide) iX7_met_7 (List.mem_of_getElem? (i := 2) rfl) rfl dX7_met_29 rfl ?_
    refine zz_iload_n (npc := 33) 1 rfl rfl dX7_met_32 rfl ?_
    refine zz_callVi (npc := 36) (n := 1) (As := [.int x1]) (by decide) (by rfl) rfl gX7_met_X4_metOf rfl rfl rfl (by decide +kernel) ⟨Nat.le_of_ble_eq_true rfl, Nat.le_of_ble_eq_true rfl⟩ rfl rfl (Nat.le_of_ble_eq_true rfl) (mtX4_metOf E l  x1 M3) dX7_met_33 rfl (fun r5 M4 _ => ?_)
    exact zz_iret dX7_met_36
  · refine zz_aload_n (npc := 12) 0 rfl rfl dX7_met_11 rfl ?_
    refine zz_iconst (npc := 13) 0 (by decide) dX7_met_12 rfl ?_
    refine zz_callVi (npc := 16) (n := 1) (As := [.int 0]) (by decide) (by rfl) rfl gX7_met_X7_found rfl rfl rfl (by decide +kernel) ⟨Nat.le_of_ble_eq_true rfl, Nat.le_of_ble_eq_true rfl⟩ rfl rfl (Nat.le_of_ble_eq_true rfl) (mtX7_found E l  0 M1) dX7_met_13 rfl (fun r7 M6 _ => ?_)
    exact zz_iret dX7_met_16
abbrev rmX7_cold : Room := { frames := 5, cells := 0, slots := 0, locals := 163 }
theorem iX7_cold_7 : ∀ w ∈ u_ws RX7 TX7 10, w ∈ wsX7_cold := fun w h => List.mem_cons_of_mem _ (List.mem_append_left _ (List.mem_append_left _ (List.mem_append_right _ h)))
noncomputable def fX7_cold  (x1 : Int32) (M : Mem) : Option (Int32 × Mem) := (bd (fX1_isPerson 1 x1 M) fun r2 M1 => (if r2 = 0 then (bd (fX7_found 0 M1) fun r9 M8 => (some (r9, M8))) else (bd (fX4_see 1 M1) fun _ M3 => (bd (fX4_firstCold x1 M3) fun r5 M4 => (if 16 ≤ r5 then (bd (fX7_found 3 M4) fun r7 M6 => (some (r7, M6))) else (some (r5, M4)))))))
set_option maxHeartbeats 4000000 in
set_option maxRecDepth 100000 in
theorem mtX7_cold (E : EV) (l : Launch)   (x1 : Int32) (M : Mem) : CT E l yX7_cold wsX7_cold rmX7_cold vI [.ref (eA E 0), .int x1] (fX7_cold x1 M) M := by
  refine ct_of (cc := cX7_cold) (nL := 3) (ret := (some .int)) (by decide +kernel) rfl (Nat.le_of_ble_eq_true rfl) ?_
  show ZZ E l RX7 cX7_cold 3 (some .int) wsX7_cold rmX7_cold vI (fX7_cold x1 M) M [(0, .ref (eA E 0)), (1, .int x1)] 0 []
  unfold fX7_cold
  refine zz_aload_n (npc := 1) 0 rfl rfl dX7_cold_0 rfl ?_
  refine zz_getR (npc := 4) (i := 0) (C0 := RX7) (T := TX7) (N := 10) (by decide) (by rfl) rfl (by decide) iX7_cold_7 (List.mem_of_getElem? (i := 1) rfl) rfl dX7_cold_1 rfl ?_
  refine zz_iload_n (npc := 5) 1 rfl rfl dX7_cold_4 rfl ?_
  refine zz_callVi (npc := 8) (n := 1) (As := [.int x1]) (by decide) (by rfl) rfl gX7_cold_X1_isPerson rfl rfl rfl (by decide +kernel) ⟨Nat.le_of_ble_eq_true rfl, Nat.le_of_ble_eq_true rfl⟩ rfl rfl (Nat.le_of_ble_eq_true rfl) (mtX1_isPerson E l 1 ld_c1 x1 M) dX7_cold_5 rfl (fun r2 M1 _ => ?_)
  refine zz_if_ne (tgt := 17) (npc := 11) dX7_cold_8 (by decide) rfl ?_ ?_
  · refine zz_aload_n (npc := 18) 0 rfl rfl dX7_cold_17 rfl ?_
    refine zz_getR (npc := 21) (i := 2) (C0 := RX7) (T := TX7) (N := 10) (by decide) (by rfl) rfl (by decide) iX7_cold_7 (List.mem_of_getElem? (i := 2) rfl) rfl dX7_cold_18 rfl ?_
    refine zz_aload_n (npc := 22) 0 rfl rfl dX7_cold_21 rfl ?_
    refine zz_getR (npc := 25) (i := 0) (C0 := RX7) (T := TX7) (N := 10) (by decide) (by rfl) rfl (by decide) iX7_cold_7 (List.mem_of_getElem? (i := 1) rfl) rfl dX7_cold_22 rfl ?_
    refine zz_callVv (npc := 28) (n := 1) (As := [.ref (eA E 1)]) (by decide) (by rfl) rfl gX7_cold_X4_see rfl rfl rfl (by decide +kernel) ⟨Nat.le_of_ble_eq_true rfl, Nat.le_of_ble_eq_true rfl⟩ rfl rfl (Nat.le_of_ble_eq_true rfl) (mtX4_see E l 1 ld_c1  M1) dX7_cold_25 rfl (fun _ M3 _ => ?_)
    refine zz_aload_n (npc := 29) 0 rfl rfl dX7_cold_28 rfl ?_
    refine zz_getR (npc := 32) (i := 2) (C0 := RX7) (T := TX7) (N := 10) (by decide) (by rfl) rfl (by decide) iX7_cold_7 (List.mem_of_getElem? (i := 2) rfl) rfl dX7_cold_29 rfl ?_
    refine zz_iload_n (npc := 33) 1 rfl rfl dX7_cold_32 rfl ?_
    refine zz_callVi (npc := 36) (n := 1) (As := [.int x1]) (by decide) (by rfl) rfl gX7_cold_X4_firstCold rfl rfl rfl (by decide +kernel) ⟨Nat.le_of_ble_eq_true rfl, Nat.le_of_ble_eq_true rfl⟩ rfl rfl (Nat.le_of_ble_eq_true rfl) (mtX4_firstCold E l  x1 M3) dX7_cold_33 rfl (fun r5 M4 _ => ?_)
    refine zz_istore_n (npc := 37) (lv1 := [(2, .int r5), (0, .ref (eA E 0)), (1, .int x1)]) rfl dX7_cold_36 rfl (by decide) rfl ?_
    refine zz_iload_n (npc := 38) 0 rfl rfl dX7_cold_37 rfl ?_
    refine zz_bipush (npc := 40) 16 (by decide) dX7_cold_38 rfl ?_
    refine zz_icmp_ge (tgt := 47) (npc := 43) dX7_cold_40 (by decide) rfl ?_ ?_
    · refine zz_aload_n (npc := 48) 1 rfl rfl dX7_cold_47 rfl ?_
      refine zz_iconst (npc := 49) 3 (by decide) dX7_cold_48 rfl ?_
      refine zz_callVi (npc := 52) (n := 1) (As := [.int 3]) (by decide) (by rfl) rfl gX7_cold_X7_found rfl rfl rfl (by decide +kernel) ⟨Nat.le_of_ble_eq_true rfl, Nat.le_of_ble_eq_true rfl⟩ rfl rfl (Nat.le_of_ble_eq_true rfl) (mtX7_found E l  3 M4) dX7_cold_49 rfl (fun r7 M6 _ => ?_)
      exact zz_iret dX7_cold_52
    · refine zz_iload_n (npc := 44) 0 rfl rfl dX7_cold_43 rfl ?_
      refine zz_goto (npc := 0) (tgt := 52) dX7_cold_44 (by decide) ?_
      exact zz_iret dX7_cold_52
  · refine zz_aload_n (npc := 12) 0 rfl rfl dX7_cold_11 rfl ?_
    refine zz_iconst (npc := 13) 0 (by decide) dX7_cold_12 rfl ?_
    refine zz_callVi (npc := 16) (n := 1) (As := [.int 0]) (by decide) (by rfl) rfl gX7_cold_X7_found rfl rfl rfl (by decide +kernel) ⟨Nat.le_of_ble_eq_true rfl, Nat.le_of_ble_eq_true rfl⟩ rfl rfl (Nat.le_of_ble_eq_true rfl) (mtX7_found E l  0 M1) dX7_cold_13 rfl (fun r9 M8 _ => ?_)
    exact zz_iret dX7_cold_16
abbrev rmX7_shade : Room := { frames := 5, cells := 0, slots := 0, locals := 163 }
theorem iX7_shade_7 : ∀ w ∈ u_ws RX7 TX7 10, w ∈ wsX7_shade := fun w h => List.mem_cons_of_mem _ (List.mem_append_left _ (List.mem_append_left _ (List.mem_append_right _ h)))
noncomputable def fX7_shade  (x1 : Int32) (M : Mem) : Option (Int32 × Mem) := (bd (fX1_isPerson 1 x1 M) fun r2 M1 => (if r2 = 0 then (bd (fX7_found 0 M1) fun r7 M6 => (some (r7, M6))) else (bd (fX4_see 1 M1) fun _ M3 => (bd (fX4_shadeOf x1 M3) fun r5 M4 => (some (r5, M4))))))
set_option maxHeartbeats 4000000 in
set_option maxRecDepth 100000 in
theorem mtX7_shade (E : EV) (l : Launch)   (x1 : Int32) (M : Mem) : CT E l yX7_shade wsX7_shade rmX7_shade vI [.ref (eA E 0), .int x1] (fX7_shade x1 M) M := by
  refine ct_of (cc := cX7_shade) (nL := 2) (ret := (some .int)) (by decide +kernel) rfl (Nat.le_of_ble_eq_true rfl) ?_
  show ZZ E l RX7 cX7_shade 2 (some .int) wsX7_shade rmX7_shade vI (fX7_shade x1 M) M [(0, .ref (eA E 0)), (1, .int x1)] 0 []
  unfold fX7_shade
  refine zz_aload_n (npc := 1) 0 rfl rfl dX7_shade_0 rfl ?_
  refine zz_getR (npc := 4) (i := 0) (C0 := RX7) (T := TX7) (N := 10) (by decide) (by rfl) rfl (by decide) iX7_shade_7 (List.mem_of_getElem? (i := 1) rfl) rfl dX7_shade_1 rfl ?_
  refine zz_iload_n (npc := 5) 1 rfl rfl dX7_shade_4 rfl ?_
  refine zz_callVi (npc := 8) (n := 1) (As := [.int x1]) (by decide) (by rfl) rfl gX7_shade_X1_isPerson rfl rfl rfl (by decide +kernel) ⟨Nat.le_of_ble_eq_true rfl, Nat.le_of_ble_eq_true rfl⟩ rfl rfl (Nat.le_of_ble_eq_true rfl) (mtX1_isPerson E l 1 ld_c1 x1 M) dX7_shade_5 rfl (fun r2 M1 _ => ?_)
  refine zz_if_ne (tgt := 17) (npc := 11) dX7_shade_8 (by decide) rfl ?_ ?_
  · refine zz_aload_n (npc := 18) 0 rfl rfl dX7_shade_17 rfl ?_
    refine zz_getR (npc := 21) (i := 2) (C0 := RX7) (T := TX7) (N := 10) (by decide) (by rfl) rfl (by decide) iX7_shade_7 (List.mem_of_getElem? (i := 2) rfl) rfl dX7_shade_18 rfl ?_
    refine zz_aload_n (npc := 22) 0 rfl rfl dX7_shade_21 rfl ?_
    refine zz_getR (npc := 25) (i := 0) (C0 := RX7) (T := TX7) (N := 10) (by decide) (by rfl) rfl (by decide) iX7_shade_7 (List.mem_of_getElem? (i := 1) rfl) rfl dX7_shade_22 rfl ?_
    refine zz_callVv (npc := 28) (n := 1) (As := [.ref (eA E 1)]) (by decide) (by rfl) rfl gX7_shade_X4_see rfl rfl rfl (by decide +kernel) ⟨Nat.le_of_ble_eq_true rfl, Nat.le_of_ble_eq_true rfl⟩ rfl rfl (Nat.le_of_ble_eq_true rfl) (mtX4_see E l 1 ld_c1  M1) dX7_shade_25 rfl (fun _ M3 _ => ?_)
    refine zz_aload_n (npc := 29) 0 rfl rfl dX7_shade_28 rfl ?_
    refine zz_getR (npc := 32) (i := 2) (C0 := RX7) (T := TX7) (N := 10) (by decide) (by rfl) rfl (by decide) iX7_shade_7 (List.mem_of_getElem? (i := 2) rfl) rfl dX7_shade_29 rfl ?_
    refine zz_iload_n (npc := 33) 1 rfl rfl dX7_shade_32 rfl ?_
    refine zz_callVi (npc := 36) (n := 1) (As := [.int x1]) (by decide) (by rfl) rfl gX7_shade_X4_shadeOf rfl rfl rfl (by decide +kernel) ⟨Nat.le_of_ble_eq_true rfl, Nat.le_of_ble_eq_true rfl⟩ rfl rfl (Nat.le_of_ble_eq_true rfl) (mtX4_shadeOf E l  x1 M3) dX7_shade_33 rfl (fun r5 M4 _ => ?_)
    exact zz_iret dX7_shade_36
  · refine zz_aload_n (npc := 12) 0 rfl rfl dX7_shade_11 rfl ?_
    refine zz_iconst (npc := 13) 0 (by decide) dX7_shade_12 rfl ?_
    refine zz_callVi (npc := 16) (n := 1) (As := [.int 0]) (by decide) (by rfl) rfl gX7_shade_X7_found rfl rfl rfl (by decide +kernel) ⟨Nat.le_of_ble_eq_true rfl, Nat.le_of_ble_eq_true rfl⟩ rfl rfl (Nat.le_of_ble_eq_true rfl) (mtX7_found E l  0 M1) dX7_shade_13 rfl (fun r7 M6 _ => ?_)
    exact zz_iret dX7_shade_16
abbrev rmX7_all : Room := { frames := 5, cells := 0, slots := 0, locals := 163 }
theorem iX7_all_7 : ∀ w ∈ u_ws RX7 TX7 10, w ∈ wsX7_all := fun w h => List.mem_cons_of_mem _ (List.mem_append_left _ (List.mem_append_left _ (List.mem_append_right _ h)))
noncomputable def fX7_all   (M : Mem) : Option (Int32 × Mem) := (bd (fX4_see 1 M) fun _ M1 => (bd (fX4_metOfAll M1) fun r3 M2 => (some (r3, M2))))
set_option maxHeartbeats 4000000 in
set_option maxRecDepth 100000 in
theorem mtX7_all (E : EV) (l : Launch)    (M : Mem) : CT E l yX7_all wsX7_all rmX7_all vI [.ref (eA E 0)] (fX7_all  M) M := by
  refine ct_of (cc := cX7_all) (nL := 1) (ret := (some .int)) (by decide +kernel) rfl (Nat.le_of_ble_eq_true rfl) ?_
  show ZZ E l RX7 cX7_all 1 (some .int) wsX7_all rmX7_all vI (fX7_all  M) M [(0, .ref (eA E 0))] 0 []
  unfold fX7_all
  refine zz_aload_n (npc := 1) 0 rfl rfl dX7_all_0 rfl ?_
  refine zz_getR (npc := 4) (i := 2) (C0 := RX7) (T := TX7) (N := 10) (by decide) (by rfl) rfl (by decide) iX7_all_7 (List.mem_of_getElem? (i := 1) rfl) rfl dX7_all_1 rfl ?_
  refine zz_aload_n (npc := 5) 0 rfl rfl dX7_all_4 rfl ?_
  refine zz_getR (npc := 8) (i := 0) (C0 := RX7) (T := TX7) (N := 10) (by decide) (by rfl) rfl (by decide) iX7_all_7 (List.mem_of_getElem? (i := 2) rfl) rfl dX7_all_5 rfl ?_
  refine zz_callVv (npc := 11) (n := 1) (As := [.ref (eA E 1)]) (by decide) (by rfl) rfl gX7_all_X4_see rfl rfl rfl (by decide +kernel) ⟨Nat.le_of_ble_eq_true rfl, Nat.le_of_ble_eq_true rfl⟩ rfl rfl (Nat.le_of_ble_eq_true rfl) (mtX4_see E l 1 ld_c1  M) dX7_all_8 rfl (fun _ M1 _ => ?_)
  refine zz_aload_n (npc := 12) 0 rfl rfl dX7_all_11 rfl ?_
  refine zz_getR (npc := 15) (i := 2) (C0 := RX7) (T := TX7) (N := 10) (by decide) (by rfl) rfl (by decide) iX7_all_7 (List.mem_of_getElem? (i := 1) rfl) rfl dX7_all_12 rfl ?_
  refine zz_callVi (npc := 18) (n := 0) (As := []) (by decide) (by rfl) rfl gX7_all_X4_metOfAll rfl rfl rfl (by decide +kernel) ⟨Nat.le_of_ble_eq_true rfl, Nat.le_of_ble_eq_true rfl⟩ rfl rfl (Nat.le_of_ble_eq_true rfl) (mtX4_metOfAll E l   M1) dX7_all_15 rfl (fun r3 M2 _ => ?_)
  exact zz_iret dX7_all_18
abbrev rmX7_tan : Room := { frames := 5, cells := 0, slots := 0, locals := 163 }
theorem iX7_tan_7 : ∀ w ∈ u_ws RX7 TX7 10, w ∈ wsX7_tan := fun w h => List.mem_cons_of_mem _ (List.mem_append_left _ (List.mem_append_left _ (List.mem_append_right _ h)))
noncomputable def fX7_tan  (x1 : Int32) (M : Mem) : Option (Int32 × Mem) := (bd (fX1_isPerson 1 x1 M) fun r2 M1 => (if r2 = 0 then (bd (fX7_found 0 M1) fun r7 M6 => (some (r7, M6))) else (bd (fX4_see 1 M1) fun _ M3 => (bd (fX4_sunOf x1 M3) fun r5 M4 => (some (r5, M4))))))
set_option maxHeartbeats 4000000 in
set_option maxRecDepth 100000 in
theorem mtX7_tan (E : EV) (l : Launch)   (x1 : Int32) (M : Mem) : CT E l yX7_tan wsX7_tan rmX7_tan vI [.ref (eA E 0), .int x1] (fX7_tan x1 M) M := by
  refine ct_of (cc := cX7_tan) (nL := 2) (ret := (some .int)) (by decide +kernel) rfl (Nat.le_of_ble_eq_true rfl) ?_
  show ZZ E l RX7 cX7_tan 2 (some .int) wsX7_tan rmX7_tan vI (fX7_tan x1 M) M [(0, .ref (eA E 0)), (1, .int x1)] 0 []
  unfold fX7_tan
  refine zz_aload_n (npc := 1) 0 rfl rfl dX7_tan_0 rfl ?_
  refine zz_getR (npc := 4) (i := 0) (C0 := RX7) (T := TX7) (N := 10) (by decide) (by rfl) rfl (by decide) iX7_tan_7 (List.mem_of_getElem? (i := 1) rfl) rfl dX7_tan_1 rfl ?_
  refine zz_iload_n (npc := 5) 1 rfl rfl dX7_tan_4 rfl ?_
  refine zz_callVi (npc := 8) (n := 1) (As := [.int x1]) (by decide) (by rfl) rfl gX7_tan_X1_isPerson rfl rfl rfl (by decide +kernel) ⟨Nat.le_of_ble_eq_true rfl, Nat.le_of_ble_eq_true rfl⟩ rfl rfl (Nat.le_of_ble_eq_true rfl) (mtX1_isPerson E l 1 ld_c1 x1 M) dX7_tan_5 rfl (fun r2 M1 _ => ?_)
  refine zz_if_ne (tgt := 17) (npc := 11) dX7_tan_8 (by decide) rfl ?_ ?_
  · refine zz_aload_n (npc := 18) 0 rfl rfl dX7_tan_17 rfl ?_
    refine zz_getR (npc := 21) (i := 2) (C0 := RX7) (T := TX7) (N := 10) (by decide) (by rfl) rfl (by decide) iX7_tan_7 (List.mem_of_getElem? (i := 2) rfl) rfl dX7_tan_18 rfl ?_
    refine zz_aload_n (npc := 22) 0 rfl rfl dX7_tan_21 rfl ?_
    refine zz_getR (npc := 25) (i := 0) (C0 := RX7) (T := TX7) (N := 10) (by decide) (by rfl) rfl (by decide) iX7_tan_7 (List.mem_of_getElem? (i := 1) rfl) rfl dX7_tan_22 rfl ?_
    refine zz_callVv (npc := 28) (n := 1) (As := [.ref (eA E 1)]) (by decide) (by rfl) rfl gX7_tan_X4_see rfl rfl rfl (by decide +kernel) ⟨Nat.le_of_ble_eq_true rfl, Nat.le_of_ble_eq_true rfl⟩ rfl rfl (Nat.le_of_ble_eq_true rfl) (mtX4_see E l 1 ld_c1  M1) dX7_tan_25 rfl (fun _ M3 _ => ?_)
    refine zz_aload_n (npc := 29) 0 rfl rfl dX7_tan_28 rfl ?_
    refine zz_getR (npc := 32) (i := 2) (C0 := RX7) (T := TX7) (N := 10) (by decide) (by rfl) rfl (by decide) iX7_tan_7 (List.mem_of_getElem? (i := 2) rfl) rfl dX7_tan_29 rfl ?_
    refine zz_iload_n (npc := 33) 1 rfl rfl dX7_tan_32 rfl ?_
    refine zz_callVi (npc := 36) (n := 1) (As := [.int x1]) (by decide) (by rfl) rfl gX7_tan_X4_sunOf rfl rfl rfl (by decide +kernel) ⟨Nat.le_of_ble_eq_true rfl, Nat.le_of_ble_eq_true rfl⟩ rfl rfl (Nat.le_of_ble_eq_true rfl) (mtX4_sunOf E l  x1 M3) dX7_tan_33 rfl (fun r5 M4 _ => ?_)
    exact zz_iret dX7_tan_36
  · refine zz_aload_n (npc := 12) 0 rfl rfl dX7_tan_11 rfl ?_
    refine zz_iconst (npc := 13) 0 (by decide) dX7_tan_12 rfl ?_
    refine zz_callVi (npc := 16) (n := 1) (As := [.int 0]) (by decide) (by rfl) rfl gX7_tan_X7_found rfl rfl rfl (by decide +kernel) ⟨Nat.le_of_ble_eq_true rfl, Nat.le_of_ble_eq_true rfl⟩ rfl rfl (Nat.le_of_ble_eq_true rfl) (mtX7_found E l  0 M1) dX7_tan_13 rfl (fun r7 M6 _ => ?_)
    exact zz_iret dX7_tan_16
abbrev rmX7_strong : Room := { frames := 4, cells := 0, slots := 0, locals := 142 }
theorem iX7_strong_1 : ∀ w ∈ u_ws RX1 TX1 12, w ∈ wsX7_strong := fun w h => List.mem_cons_of_mem _ (List.mem_append_right _ h)
theorem iX7_strong_4 : ∀ w ∈ u_ws RX4 TX4 4, w ∈ wsX7_strong := fun w h => List.mem_cons_of_mem _ (List.mem_append_left _ (List.mem_append_right _ h))
theorem iX7_strong_7 : ∀ w ∈ u_ws RX7 TX7 10, w ∈ wsX7_strong := fun w h => List.mem_cons_of_mem _ (List.mem_append_left _ (List.mem_append_left _ (List.mem_append_right _ h)))
noncomputable def fX7_strong_L19   : Nat → Int32 → Int32 → Mem → Option (Int32 × Mem)
  | 0, _, _, _ => none
  | n + 1, y1, y2, M => (if 9 < y2 then (bd (fX7_found 3 M) fun r6 M5 => (some (r6, M5))) else (bd (fX4_begin 1 M) fun _ M7 => (ck (inb y1 8) (wm (wr M7 19 (ix y1) y2) fun M8 => (bd (fX4_run M8) fun _ M9 => (bd (fX4_firstCold y1 M9) fun r11 M10 => (if r11 = 16 then (some (y2, M10)) else (bv (y2 + 1) fun v12 => (fX7_strong_L19  n y1 v12 M10)))))))))
set_option maxHeartbeats 4000000 in
set_option maxRecDepth 100000 in
theorem zX7_strong_L19 (E : EV) (l : Launch)     : ∀ (n : Nat) (y1 : Int32) (y2 : Int32) (M : Mem), ZZ E l RX7 cX7_strong 3 (some .int) wsX7_strong rmX7_strong vI (fX7_strong_L19 n y1 y2 M) M [(0, .ref (eA E 0)), (1, .int y1), (2, .int y2)] 19 [] := by
  intro n
  induction n with
  | zero => intros; exact zz_none
  | succ n ih =>
    intro y1 y2 M
    rw [fX7_strong_L19]
    refine zz_iload_n (npc := 20) 2 rfl rfl dX7_strong_19 rfl ?_
    refine zz_bipush (npc := 22) 9 (by decide) dX7_strong_20 rfl ?_
    refine zz_icmp_gt (tgt := 77) (npc := 25) dX7_strong_22 (by decide) rfl ?_ ?_
    · refine zz_aload_n (npc := 78) 0 rfl rfl dX7_strong_77 rfl ?_
      refine zz_iconst (npc := 79) 3 (by decide) dX7_strong_78 rfl ?_
      refine zz_callVi (npc := 82) (n := 1) (As := [.int 3]) (by decide) (by rfl) rfl gX7_strong_X7_found rfl rfl rfl (by decide +kernel) ⟨Nat.le_of_ble_eq_true rfl, Nat.le_of_ble_eq_true rfl⟩ rfl rfl (Nat.le_of_ble_eq_true rfl) (mtX7_found E l  3 M) dX7_strong_79 rfl (fun r6 M5 _ => ?_)
      exact zz_iret dX7_strong_82
    · refine zz_aload_n (npc := 26) 0 rfl rfl dX7_strong_25 rfl ?_
      refine zz_getR (npc := 29) (i := 2) (C0 := RX7) (T := TX7) (N := 10) (by decide) (by rfl) rfl (by decide) iX7_strong_7 (List.mem_of_getElem? (i := 2) rfl) rfl dX7_strong_26 rfl ?_
      refine zz_aload_n (npc := 30) 0 rfl rfl dX7_strong_29 rfl ?_
      refine zz_getR (npc := 33) (i := 0) (C0 := RX7) (T := TX7) (N := 10) (by decide) (by rfl) rfl (by decide) iX7_strong_7 (List.mem_of_getElem? (i := 1) rfl) rfl dX7_strong_30 rfl ?_
      refine zz_callVv (npc := 36) (n := 1) (As := [.ref (eA E 1)]) (by decide) (by rfl) rfl gX7_strong_X4_begin rfl rfl rfl (by decide +kernel) ⟨Nat.le_of_ble_eq_true rfl, Nat.le_of_ble_eq_true rfl⟩ rfl rfl (Nat.le_of_ble_eq_true rfl) (mtX4_begin E l 1 ld_c1  M) dX7_strong_33 rfl (fun _ M7 _ => ?_)
      refine zz_aload_n (npc := 37) 0 rfl rfl dX7_strong_36 rfl ?_
      refine zz_getR (npc := 40) (i := 2) (C0 := RX7) (T := TX7) (N := 10) (by decide) (by rfl) rfl (by decide) iX7_strong_7 (List.mem_of_getElem? (i := 2) rfl) rfl dX7_strong_37 rfl ?_
      refine zz_getR (npc := 43) (i := 0) (C0 := RX4) (T := TX4) (N := 4) (by decide) (by rfl) rfl (by decide) iX7_strong_4 (List.mem_of_getElem? (i := 3) rfl) rfl dX7_strong_40 rfl ?_
      refine zz_getR (npc := 46) (i := 2) (C0 := RX1) (T := TX1) (N := 12) (by decide) (by rfl) rfl (by decide) iX7_strong_1 (List.mem_of_getElem? (i := 4) rfl) rfl dX7_strong_43 rfl ?_
      refine zz_iload_n (npc := 47) 1 rfl rfl dX7_strong_46 rfl ?_
      refine zz_iload_n (npc := 48) 2 rfl rfl dX7_strong_47 rfl ?_
      refine zz_iast (npc := 49) (by decide) (by rfl) dX7_strong_48 rfl (fun M8 => ?_)
      refine zz_aload_n (npc := 50) 0 rfl rfl dX7_strong_49 rfl ?_
      refine zz_getR (npc := 53) (i := 2) (C0 := RX7) (T := TX7) (N := 10) (by decide) (by rfl) rfl (by decide) iX7_strong_7 (List.mem_of_getElem? (i := 2) rfl) rfl dX7_strong_50 rfl ?_
      refine zz_callVv (npc := 56) (n := 0) (As := []) (by decide) (by rfl) rfl gX7_strong_X4_run rfl rfl rfl (by decide +kernel) ⟨Nat.le_of_ble_eq_true rfl, Nat.le_of_ble_eq_true rfl⟩ rfl rfl (Nat.le_of_ble_eq_true rfl) (mtX4_run E l   M8) dX7_strong_53 rfl (fun _ M9 _ => ?_)
      refine zz_aload_n (npc := 57) 0 rfl rfl dX7_strong_56 rfl ?_
      refine zz_getR (npc := 60) (i := 2) (C0 := RX7) (T := TX7) (N := 10) (by decide) (by rfl) rfl (by decide) iX7_strong_7 (List.mem_of_getElem? (i := 2) rfl) rfl dX7_strong_57 rfl ?_
      refine zz_iload_n (npc := 61) 1 rfl rfl dX7_strong_60 rfl ?_
      refine zz_callVi (npc := 64) (n := 1) (As := [.int y1]) (by decide) (by rfl) rfl gX7_strong_X4_firstCold rfl rfl rfl (by decide +kernel) ⟨Nat.le_of_ble_eq_true rfl, Nat.le_of_ble_eq_true rfl⟩ rfl rfl (Nat.le_of_ble_eq_true rfl) (mtX4_firstCold E l  y1 M9) dX7_strong_61 rfl (fun r11 M10 _ => ?_)
      refine zz_bipush (npc := 66) 16 (by decide) dX7_strong_64 rfl ?_
      refine zz_icmp_ne (tgt := 71) (npc := 69) dX7_strong_66 (by decide) rfl ?_ ?_
      · refine zz_iincB (npc := 74) (y2 + 1) (lv1 := fun v12 => [(2, .int v12), (0, .ref (eA E 0)), (1, .int y1)]) dX7_strong_71 rfl 2 rfl rfl (by decide) (fun _ => rfl) (fun v12 => ?_)
        refine zz_goto (npc := 0) (tgt := 19) dX7_strong_74 (by decide) ?_
        refine zz_sub (npc := 0) (lv1 := [(0, .ref (eA E 0)), (1, .int y1), (2, .int v12)]) [1, 2, 0] rfl ?_
        exact ih y1 v12 M10
      · refine zz_iload_n (npc := 70) 2 rfl rfl dX7_strong_69 rfl ?_
        exact zz_iret dX7_strong_70
noncomputable def fX7_strong  (x1 : Int32) (M : Mem) : Option (Int32 × Mem) := (bd (fX1_isPerson 1 x1 M) fun r2 M1 => (if r2 = 0 then (bd (fX7_found 0 M1) fun r4 M3 => (some (r4, M3))) else (fX7_strong_L19  fu x1 0 M1)))
set_option maxHeartbeats 4000000 in
set_option maxRecDepth 100000 in
theorem mtX7_strong (E : EV) (l : Launch)   (x1 : Int32) (M : Mem) : CT E l yX7_strong wsX7_strong rmX7_strong vI [.ref (eA E 0), .int x1] (fX7_strong x1 M) M := by
  refine ct_of (cc := cX7_strong) (nL := 3) (ret := (some .int)) (by decide +kernel) rfl (Nat.le_of_ble_eq_true rfl) ?_
  show ZZ E l RX7 cX7_strong 3 (some .int) wsX7_strong rmX7_strong vI (fX7_strong x1 M) M [(0, .ref (eA E 0)), (1, .int x1)] 0 []
  unfold fX7_strong
  refine zz_aload_n (npc := 1) 0 rfl rfl dX7_strong_0 rfl ?_
  refine zz_getR (npc := 4) (i := 0) (C0 := RX7) (T := TX7) (N := 10) (by decide) (by rfl) rfl (by decide) iX7_strong_7 (List.mem_of_getElem? (i := 1) rfl) rfl dX7_strong_1 rfl ?_
  refine zz_iload_n (npc := 5) 1 rfl rfl dX7_strong_4 rfl ?_
  refine zz_callVi (npc := 8) (n := 1) (As := [.int x1]) (by decide) (by rfl) rfl gX7_strong_X1_isPerson rfl rfl rfl (by decide +kernel) ⟨Nat.le_of_ble_eq_true rfl, Nat.le_of_ble_eq_true rfl⟩ rfl rfl (Nat.le_of_ble_eq_true rfl) (mtX1_isPerson E l 1 ld_c1 x1 M) dX7_strong_5 rfl (fun r2 M1 _ => ?_)
  refine zz_if_ne (tgt := 17) (npc := 11) dX7_strong_8 (by decide) rfl ?_ ?_
  · refine zz_iconst (npc := 18) 0 (by decide) dX7_strong_17 rfl ?_
    refine zz_istore_n (npc := 19) (lv1 := [(2, .int 0), (0, .ref (eA E 0)), (1, .int x1)]) rfl dX7_strong_18 rfl (by decide) rfl ?_
    refine zz_sub (npc := 0) (lv1 := [(0, .ref (eA E 0)), (1, .int x1), (2, .int 0)]) [1, 2, 0] rfl ?_
    exact zX7_strong_L19 E l  fu x1 0 M1
  · refine zz_aload_n (npc := 12) 0 rfl rfl dX7_strong_11 rfl ?_
    refine zz_iconst (npc := 13) 0 (by decide) dX7_strong_12 rfl ?_
    refine zz_callVi (npc := 16) (n := 1) (As := [.int 0]) (by decide) (by rfl) rfl gX7_strong_X7_found rfl rfl rfl (by decide +kernel) ⟨Nat.le_of_ble_eq_true rfl, Nat.le_of_ble_eq_true rfl⟩ rfl rfl (Nat.le_of_ble_eq_true rfl) (mtX7_found E l  0 M1) dX7_strong_13 rfl (fun r4 M3 _ => ?_)
    exact zz_iret dX7_strong_16
abbrev rmX7_kindFor : Room := { frames := 4, cells := 0, slots := 0, locals := 142 }
theorem iX7_kindFor_1 : ∀ w ∈ u_ws RX1 TX1 12, w ∈ wsX7_kindFor := fun w h => List.mem_cons_of_mem _ (List.mem_append_right _ h)
theorem iX7_kindFor_4 : ∀ w ∈ u_ws RX4 TX4 4, w ∈ wsX7_kindFor := fun w h => List.mem_cons_of_mem _ (List.mem_append_left _ (List.mem_append_right _ h))
theorem iX7_kindFor_7 : ∀ w ∈ u_ws RX7 TX7 10, w ∈ wsX7_kindFor := fun w h => List.mem_cons_of_mem _ (List.mem_append_left _ (List.mem_append_left _ (List.mem_append_right _ h)))
noncomputable def fX7_kindFor_L87  (k24 : Int32 → Int32 → Int32 → Int32 → Mem → Option (Int32 × Mem)) (y1 : Int32) (y2 : Int32) (y3 : Int32) (y4 : Int32) (M : Mem) : Option (Int32 × Mem) := (bv (y4 + 1) fun v12 => (k24 y1 y2 y3 v12 M))
set_option maxHeartbeats 4000000 in
set_option maxRecDepth 100000 in
theorem zX7_kindFor_L87 (E : EV) (l : Launch)   (k24 : Int32 → Int32 → Int32 → Int32 → Mem → Option (Int32 × Mem)) (hk24 : ∀ (y1_ : Int32) (y2_ : Int32) (y3_ : Int32) (y4_ : Int32) (M_ : Mem), ZZ E l RX7 cX7_kindFor 5 (some .int) wsX7_kindFor rmX7_kindFor vI (k24 y1_ y2_ y3_ y4_ M_) M_ [(0, .ref (eA E 0)), (1, .int y1_), (2, .int y2_), (3, .int y3_), (4, .int y4_)] 24 []) : ∀ (y1 : Int32) (y2 : Int32) (y3 : Int32) (y4 : Int32) (M : Mem), ZZ E l RX7 cX7_kindFor 5 (some .int) wsX7_kindFor rmX7_kindFor vI (fX7_kindFor_L87 k24 y1 y2 y3 y4 M) M [(0, .ref (eA E 0)), (1, .int y1), (2, .int y2), (3, .int y3), (4, .int y4)] 87 [] := by
  intro y1 y2 y3 y4 M
  unfold fX7_kindFor_L87
  refine zz_iincB (npc := 90) (y4 + 1) (lv1 := fun v12 => [(4, .int v12), (0, .ref (eA E 0)), (1, .int y1), (2, .int y2), (3, .int y3)]) dX7_kindFor_87 rfl 4 rfl rfl (by decide) (fun _ => rfl) (fun v12 => ?_)
  refine zz_goto (npc := 0) (tgt := 24) dX7_kindFor_90 (by decide) ?_
  refine zz_sub (npc := 0) (lv1 := [(0, .ref (eA E 0)), (1, .int y1), (2, .int y2), (3, .int y3), (4, .int v12)]) [1, 2, 3, 4, 0] rfl ?_
  exact hk24 y1 y2 y3 v12 M
noncomputable def fX7_kindFor_L24   : Nat → Int32 → Int32 → Int32 → Int32 → Mem → Option (Int32 × Mem)
  | 0, _, _, _, _, _ => none
  | n + 1, y1, y2, y3, y4, M => (if 7 ≤ y4 then (some (y2, M)) else (bd (fX4_begin 1 M) fun _ M5 => (ck (inb y1 8) (wm (wr M5 17 (ix y1) y4) fun M6 => (bd (fX4_run M6) fun _ M7 => (bd (fX4_metOf y1 M7) fun r9 M8 => (if r9 ≤ y3 then (fX7_kindFor_L87 (fX7_kindFor_L24  n) y1 y2 y3 y4 M8) else (bd (fX4_metOf y1 M8) fun r11 M10 => (fX7_kindFor_L87 (fX7_kindFor_L24  n) y1 y4 r11 y4 M10)))))))))
set_option maxHeartbeats 4000000 in
set_option maxRecDepth 100000 in
theorem zX7_kindFor_L24 (E : EV) (l : Launch)     : ∀ (n : Nat) (y1 : Int32) (y2 : Int32) (y3 : Int32) (y4 : Int32) (M : Mem), ZZ E l RX7 cX7_kindFor 5 (some .int) wsX7_kindFor rmX7_kindFor vI (fX7_kindFor_L24 n y1 y2 y3 y4 M) M [(0, .ref (eA E 0)), (1, .int y1), (2, .int y2), (3, .int y3), (4, .int y4)] 24 [] := by
  intro n
  induction n with
  | zero => intros; exact zz_none
  | succ n ih =>
    intro y1 y2 y3 y4 M
    rw [fX7_kindFor_L24]
    refine zz_iload (npc := 26) 4 rfl dX7_kindFor_24 rfl ?_
    refine zz_bipush (npc := 28) 7 (by decide) dX7_kindFor_26 rfl ?_
    refine zz_icmp_ge (tgt := 93) (npc := 31) dX7_kindFor_28 (by decide) rfl ?_ ?_
    · refine zz_iload_n (npc := 94) 2 rfl rfl dX7_kindFor_93 rfl ?_
      exact zz_iret dX7_kindFor_94
    · refine zz_aload_n (npc := 32) 0 rfl rfl dX7_kindFor_31 rfl ?_
      refine zz_getR (npc := 35) (i := 2) (C0 := RX7) (T := TX7) (N := 10) (by decide) (by rfl) rfl (by decide) iX7_kindFor_7 (List.mem_of_getElem? (i := 2) rfl) rfl dX7_kindFor_32 rfl ?_
      refine zz_aload_n (npc := 36) 0 rfl rfl dX7_kindFor_35 rfl ?_
      refine zz_getR (npc := 39) (i := 0) (C0 := RX7) (T := TX7) (N := 10) (by decide) (by rfl) rfl (by decide) iX7_kindFor_7 (List.mem_of_getElem? (i := 1) rfl) rfl dX7_kindFor_36 rfl ?_
      refine zz_callVv (npc := 42) (n := 1) (As := [.ref (eA E 1)]) (by decide) (by rfl) rfl gX7_kindFor_X4_begin rfl rfl rfl (by decide +kernel) ⟨Nat.le_of_ble_eq_true rfl, Nat.le_of_ble_eq_true rfl⟩ rfl rfl (Nat.le_of_ble_eq_true rfl) (mtX4_begin E l 1 ld_c1  M) dX7_kindFor_39 rfl (fun _ M5 _ => ?_)
      refine zz_aload_n (npc := 43) 0 rfl rfl dX7_kindFor_42 rfl ?_
      refine zz_getR (npc := 46) (i := 2) (C0 := RX7) (T := TX7) (N := 10) (by decide) (by rfl) rfl (by decide) iX7_kindFor_7 (List.mem_of_getElem? (i := 2) rfl) rfl dX7_kindFor_43 rfl ?_
      refine zz_getR (npc := 49) (i := 0) (C0 := RX4) (T := TX4) (N := 4) (by decide) (by rfl) rfl (by decide) iX7_kindFor_4 (List.mem_of_getElem? (i := 3) rfl) rfl dX7_kindFor_46 rfl ?_
      refine zz_getR (npc := 52) (i := 0) (C0 := RX1) (T := TX1) (N := 12) (by decide) (by rfl) rfl (by decide) iX7_kindFor_1 (List.mem_of_getElem? (i := 4) rfl) rfl dX7_kindFor_49 rfl ?_
      refine zz_iload_n (npc := 53) 1 rfl rfl dX7_kindFor_52 rfl ?_
      refine zz_iload (npc := 55) 4 rfl dX7_kindFor_53 rfl ?_
      refine zz_iast (npc := 56) (by decide) (by rfl) dX7_kindFor_55 rfl (fun M6 => ?_)
      refine zz_aload_n (npc := 57) 0 rfl rfl dX7_kindFor_56 rfl ?_
      refine zz_getR (npc := 60) (i := 2) (C0 := RX7) (T := TX7) (N := 10) (by decide) (by rfl) rfl (by decide) iX7_kindFor_7 (List.mem_of_getElem? (i := 2) rfl) rfl dX7_kindFor_57 rfl ?_
      refine zz_callVv (npc := 63) (n := 0) (As := []) (by decide) (by rfl) rfl gX7_kindFor_X4_run rfl rfl rfl (by decide +kernel) ⟨Nat.le_of_ble_eq_true rfl, Nat.le_of_ble_eq_true rfl⟩ rfl rfl (Nat.le_of_ble_eq_true rfl) (mtX4_run E l   M6) dX7_kindFor_60 rfl (fun _ M7 _ => ?_)
      refine zz_aload_n (npc := 64) 0 rfl rfl dX7_kindFor_63 rfl ?_
      refine zz_getR (npc := 67) (i := 2) (C0 := RX7) (T := TX7) (N := 10) (by decide) (by rfl) rfl (by decide) iX7_kindFor_7 (List.mem_of_getElem? (i := 2) rfl) rfl dX7_kindFor_64 rfl ?_
      refine zz_iload_n (npc := 68) 1 rfl rfl dX7_kindFor_67 rfl ?_
      refine zz_callVi (npc := 71) (n := 1) (As := [.int y1]) (by decide) (by rfl) rfl gX7_kindFor_X4_metOf rfl rfl rfl (by decide +kernel) ⟨Nat.le_of_ble_eq_true rfl, Nat.le_of_ble_eq_true rfl⟩ rfl rfl (Nat.le_of_ble_eq_true rfl) (mtX4_metOf E l  y1 M7) dX7_kindFor_68 rfl (fun r9 M8 _ => ?_)
      refine zz_iload_n (npc := 72) 3 rfl rfl dX7_kindFor_71 rfl ?_
      refine zz_icmp_le (tgt := 87) (npc := 75) dX7_kindFor_72 (by decide) rfl ?_ ?_
      · exact zX7_kindFor_L87 E l (fX7_kindFor_L24  n) ih y1 y2 y3 y4 M8
      · refine zz_aload_n (npc := 76) 0 rfl rfl dX7_kindFor_75 rfl ?_
        refine zz_getR (npc := 79) (i := 2) (C0 := RX7) (T := TX7) (N := 10) (by decide) (by rfl) rfl (by decide) iX7_kindFor_7 (List.mem_of_getElem? (i := 2) rfl) rfl dX7_kindFor_76 rfl ?_
        refine zz_iload_n (npc := 80) 1 rfl rfl dX7_kindFor_79 rfl ?_
        refine zz_callVi (npc := 83) (n := 1) (As := [.int y1]) (by decide) (by rfl) rfl gX7_kindFor_X4_metOf rfl rfl rfl (by decide +kernel) ⟨Nat.le_of_ble_eq_true rfl, Nat.le_of_ble_eq_true rfl⟩ rfl rfl (Nat.le_of_ble_eq_true rfl) (mtX4_metOf E l  y1 M8) dX7_kindFor_80 rfl (fun r11 M10 _ => ?_)
        refine zz_istore_n (npc := 84) (lv1 := [(3, .int r11), (0, .ref (eA E 0)), (1, .int y1), (2, .int y2), (4, .int y4)]) rfl dX7_kindFor_83 rfl (by decide) rfl ?_
        refine zz_iload (npc := 86) 4 rfl dX7_kindFor_84 rfl ?_
        refine zz_istore_n (npc := 87) (lv1 := [(2, .int y4), (3, .int r11), (0, .ref (eA E 0)), (1, .int y1), (4, .int y4)]) rfl dX7_kindFor_86 rfl (by decide) rfl ?_
        refine zz_sub (npc := 0) (lv1 := [(0, .ref (eA E 0)), (1, .int y1), (2, .int y4), (3, .int r11), (4, .int y4)]) [2, 3, 0, 1, 4] rfl ?_
        exact zX7_kindFor_L87 E l (fX7_kindFor_L24  n) ih y1 y4 r11 y4 M10
noncomputable def fX7_kindFor  (x1 : Int32) (M : Mem) : Option (Int32 × Mem) := (bd (fX1_isPerson 1 x1 M) fun r2 M1 => (if r2 = 0 then (bd (fX7_found 0 M1) fun r4 M3 => (some (r4, M3))) else (fX7_kindFor_L24  fu x1 0 (-1) 0 M1)))
set_option maxHeartbeats 4000000 in
set_option maxRecDepth 100000 in
theorem mtX7_kindFor (E : EV) (l : Launch)   (x1 : Int32) (M : Mem) : CT E l yX7_kindFor wsX7_kindFor rmX7_kindFor vI [.ref (eA E 0), .int x1] (fX7_kindFor x1 M) M := by
  refine ct_of (cc := cX7_kindFor) (nL := 5) (ret := (some .int)) (by decide +kernel) rfl (Nat.le_of_ble_eq_true rfl) ?_
  show ZZ E l RX7 cX7_kindFor 5 (some .int) wsX7_kindFor rmX7_kindFor vI (fX7_kindFor x1 M) M [(0, .ref (eA E 0)), (1, .int x1)] 0 []
  unfold fX7_kindFor
  refine zz_aload_n (npc := 1) 0 rfl rfl dX7_kindFor_0 rfl ?_
  refine zz_getR (npc := 4) (i := 0) (C0 := RX7) (T := TX7) (N := 10) (by decide) (by rfl) rfl (by decide) iX7_kindFor_7 (List.mem_of_getElem? (i := 1) rfl) rfl dX7_kindFor_1 rfl ?_
  refine zz_iload_n (npc := 5) 1 rfl rfl dX7_kindFor_4 rfl ?_
  refine zz_callVi (npc := 8) (n := 1) (As := [.int x1]) (by decide) (by rfl) rfl gX7_kindFor_X1_isPerson rfl rfl rfl (by decide +kernel) ⟨Nat.le_of_ble_eq_true rfl, Nat.le_of_ble_eq_true rfl⟩ rfl rfl (Nat.le_of_ble_eq_true rfl) (mtX1_isPerson E l 1 ld_c1 x1 M) dX7_kindFor_5 rfl (fun r2 M1 _ => ?_)
  refine zz_if_ne (tgt := 17) (npc := 11) dX7_kindFor_8 (by decide) rfl ?_ ?_
  · refine zz_iconst (npc := 18) 0 (by decide) dX7_kindFor_17 rfl ?_
    refine zz_istore_n (npc := 19) (lv1 := [(2, .int 0), (0, .ref (eA E 0)), (1, .int x1)]) rfl dX7_kindFor_18 rfl (by decide) rfl ?_
    refine zz_iconst (npc := 20) (-1) (by decide) dX7_kindFor_19 rfl ?_
    refine zz_istore_n (npc := 21) (lv1 := [(3, .int (-1)), (2, .int 0), (0, .ref (eA E 0)), (1, .int x1)]) rfl dX7_kindFor_20 rfl (by decide) rfl ?_
    refine zz_iconst (npc := 22) 0 (by decide) dX7_kindFor_21 rfl ?_
    refine zz_istore (npc := 24) (lv1 := [(4, .int 0), (3, .int (-1)), (2, .int 0), (0, .ref (eA E 0)), (1, .int x1)]) dX7_kindFor_22 rfl (by decide) rfl ?_
    refine zz_sub (npc := 0) (lv1 := [(0, .ref (eA E 0)), (1, .int x1), (2, .int 0), (3, .int (-1)), (4, .int 0)]) [3, 4, 2, 1, 0] rfl ?_
    exact zX7_kindFor_L24 E l  fu x1 0 (-1) 0 M1
  · refine zz_aload_n (npc := 12) 0 rfl rfl dX7_kindFor_11 rfl ?_
    refine zz_iconst (npc := 13) 0 (by decide) dX7_kindFor_12 rfl ?_
    refine zz_callVi (npc := 16) (n := 1) (As := [.int 0]) (by decide) (by rfl) rfl gX7_kindFor_X7_found rfl rfl rfl (by decide +kernel) ⟨Nat.le_of_ble_eq_true rfl, Nat.le_of_ble_eq_true rfl⟩ rfl rfl (Nat.le_of_ble_eq_true rfl) (mtX7_found E l  0 M1) dX7_kindFor_13 rfl (fun r4 M3 _ => ?_)
    exact zz_iret dX7_kindFor_16
abbrev rmX7_cloud : Room := { frames := 5, cells := 0, slots := 0, locals := 163 }
theorem iX7_cloud_1 : ∀ w ∈ u_ws RX1 TX1 12, w ∈ wsX7_cloud := fun w h => List.mem_cons_of_mem _ (List.mem_append_right _ h)
theorem iX7_cloud_4 : ∀ w ∈ u_ws RX4 TX4 4, w ∈ wsX7_cloud := fun w h => List.mem_cons_of_mem _ (List.mem_append_left _ (List.mem_append_right _ h))
theorem iX7_cloud_7 : ∀ w ∈ u_ws RX7 TX7 10, w ∈ wsX7_cloud := fun w h => List.mem_cons_of_mem _ (List.mem_append_left _ (List.mem_append_left _ (List.mem_append_right _ h)))
noncomputable def fX7_cloud_L86  (k23 : Int32 → Int32 → Int32 → Mem → Option (Int32 × Mem)) (y1 : Int32) (y2 : Int32) (y3 : Int32) (M : Mem) : Option (Int32 × Mem) := (bv (y3 + 1) fun v11 => (k23 y1 y2 v11 M))
set_option maxHeartbeats 4000000 in
set_option maxRecDepth 100000 in
theorem zX7_cloud_L86 (E : EV) (l : Launch)   (k23 : Int32 → Int32 → Int32 → Mem → Option (Int32 × Mem)) (hk23 : ∀ (y1_ : Int32) (y2_ : Int32) (y3_ : Int32) (M_ : Mem), ZZ E l RX7 cX7_cloud 4 (some .int) wsX7_cloud rmX7_cloud vI (k23 y1_ y2_ y3_ M_) M_ [(0, .ref (eA E 0)), (1, .int y1_), (2, .int y2_), (3, .int y3_)] 23 []) : ∀ (y1 : Int32) (y2 : Int32) (y3 : Int32) (M : Mem), ZZ E l RX7 cX7_cloud 4 (some .int) wsX7_cloud rmX7_cloud vI (fX7_cloud_L86 k23 y1 y2 y3 M) M [(0, .ref (eA E 0)), (1, .int y1), (2, .int y2), (3, .int y3)] 86 [] := by
  intro y1 y2 y3 M
  unfold fX7_cloud_L86
  refine zz_iincB (npc := 89) (y3 + 1) (lv1 := fun v11 => [(3, .int v11), (0, .ref (eA E 0)), (1, .int y1), (2, .int y2)]) dX7_cloud_86 rfl 3 rfl rfl (by decide) (fun _ => rfl) (fun v11 => ?_)
  refine zz_goto (npc := 0) (tgt := 23) dX7_cloud_89 (by decide) ?_
  refine zz_sub (npc := 0) (lv1 := [(0, .ref (eA E 0)), (1, .int y1), (2, .int y2), (3, .int v11)]) [1, 2, 3, 0] rfl ?_
  exact hk23 y1 y2 v11 M
noncomputable def fX7_cloud_L23   : Nat → Int32 → Int32 → Int32 → Mem → Option (Int32 × Mem)
  | 0, _, _, _, _ => none
  | n + 1, y1, y2, y3, M => (if 16 ≤ y3 then (some (y2, M)) else (bd (fX4_begin 1 M) fun _ M4 => (wm (wr M4 16 7 ((M4 16 7) ^^^ (shl 1 y3))) fun M5 => (bd (fX4_run M5) fun _ M6 => (bd (fX4_metOfAll M6) fun r8 M7 => (if r8 ≤ y1 then (fX7_cloud_L86 (fX7_cloud_L23  n) y1 y2 y3 M7) else (bd (fX4_metOfAll M7) fun r10 M9 => (fX7_cloud_L86 (fX7_cloud_L23  n) r10 y3 y3 M9))))))))
set_option maxHeartbeats 4000000 in
set_option maxRecDepth 100000 in
theorem zX7_cloud_L23 (E : EV) (l : Launch)     : ∀ (n : Nat) (y1 : Int32) (y2 : Int32) (y3 : Int32) (M : Mem), ZZ E l RX7 cX7_cloud 4 (some .int) wsX7_cloud rmX7_cloud vI (fX7_cloud_L23 n y1 y2 y3 M) M [(0, .ref (eA E 0)), (1, .int y1), (2, .int y2), (3, .int y3)] 23 [] := by
  intro n
  induction n with
  | zero => intros; exact zz_none
  | succ n ih =>
    intro y1 y2 y3 M
    rw [fX7_cloud_L23]
    refine zz_iload_n (npc := 24) 3 rfl rfl dX7_cloud_23 rfl ?_
    refine zz_bipush (npc := 26) 16 (by decide) dX7_cloud_24 rfl ?_
    refine zz_icmp_ge (tgt := 92) (npc := 29) dX7_cloud_26 (by decide) rfl ?_ ?_
    · refine zz_iload_n (npc := 93) 2 rfl rfl dX7_cloud_92 rfl ?_
      exact zz_iret dX7_cloud_93
    · refine zz_aload_n (npc := 30) 0 rfl rfl dX7_cloud_29 rfl ?_
      refine zz_getR (npc := 33) (i := 2) (C0 := RX7) (T := TX7) (N := 10) (by decide) (by rfl) rfl (by decide) iX7_cloud_7 (List.mem_of_getElem? (i := 1) rfl) rfl dX7_cloud_30 rfl ?_
      refine zz_aload_n (npc := 34) 0 rfl rfl dX7_cloud_33 rfl ?_
      refine zz_getR (npc := 37) (i := 0) (C0 := RX7) (T := TX7) (N := 10) (by decide) (by rfl) rfl (by decide) iX7_cloud_7 (List.mem_of_getElem? (i := 2) rfl) rfl dX7_cloud_34 rfl ?_
      refine zz_callVv (npc := 40) (n := 1) (As := [.ref (eA E 1)]) (by decide) (by rfl) rfl gX7_cloud_X4_begin rfl rfl rfl (by decide +kernel) ⟨Nat.le_of_ble_eq_true rfl, Nat.le_of_ble_eq_true rfl⟩ rfl rfl (Nat.le_of_ble_eq_true rfl) (mtX4_begin E l 1 ld_c1  M) dX7_cloud_37 rfl (fun _ M4 _ => ?_)
      refine zz_aload_n (npc := 41) 0 rfl rfl dX7_cloud_40 rfl ?_
      refine zz_getR (npc := 44) (i := 2) (C0 := RX7) (T := TX7) (N := 10) (by decide) (by rfl) rfl (by decide) iX7_cloud_7 (List.mem_of_getElem? (i := 1) rfl) rfl dX7_cloud_41 rfl ?_
      refine zz_getR (npc := 47) (i := 0) (C0 := RX4) (T := TX4) (N := 4) (by decide) (by rfl) rfl (by decide) iX7_cloud_4 (List.mem_of_getElem? (i := 3) rfl) rfl dX7_cloud_44 rfl ?_
      refine zz_dup (npc := 48) rfl dX7_cloud_47 rfl ?_
      refine zz_getI (npc := 51) (i := 7) (C0 := RX1) (T := TX1) (N := 12) (by decide) (by rfl) rfl (by decide) iX7_cloud_1 (List.mem_of_getElem? (i := 4) rfl) rfl dX7_cloud_48 rfl ?_
      refine zz_iconst (npc := 52) 1 (by decide) dX7_cloud_51 rfl ?_
      refine zz_iload_n (npc := 53) 3 rfl rfl dX7_cloud_52 rfl ?_
      refine zz_ishl (npc := 54) dX7_cloud_53 rfl ?_
      refine zz_ixor (npc := 55) dX7_cloud_54 rfl ?_
      refine zz_putI (npc := 58) (i := 7) (C0 := RX1) (T := TX1) (N := 12) (by decide) (by rfl) rfl (by decide) iX7_cloud_1 (List.mem_of_getElem? (i := 4) rfl) tyX1_ok nmX1 rfl rfl rfl dX7_cloud_55 rfl (fun M5 => ?_)
      refine zz_aload_n (npc := 59) 0 rfl rfl dX7_cloud_58 rfl ?_
      refine zz_getR (npc := 62) (i := 2) (C0 := RX7) (T := TX7) (N := 10) (by decide) (by rfl) rfl (by decide) iX7_cloud_7 (List.mem_of_getElem? (i := 1) rfl) rfl dX7_cloud_59 rfl ?_
      refine zz_callVv (npc := 65) (n := 0) (As := []) (by decide) (by rfl) rfl gX7_cloud_X4_run rfl rfl rfl (by decide +kernel) ⟨Nat.le_of_ble_eq_true rfl, Nat.le_of_ble_eq_true rfl⟩ rfl rfl (Nat.le_of_ble_eq_true rfl) (mtX4_run E l   M5) dX7_cloud_62 rfl (fun _ M6 _ => ?_)
      refine zz_aload_n (npc := 66) 0 rfl rfl dX7_cloud_65 rfl ?_
      refine zz_getR (npc := 69) (i := 2) (C0 := RX7) (T := TX7) (N := 10) (by decide) (by rfl) rfl (by decide) iX7_cloud_7 (List.mem_of_getElem? (i := 1) rfl) rfl dX7_cloud_66 rfl ?_
      refine zz_callVi (npc := 72) (n := 0) (As := []) (by decide) (by rfl) rfl gX7_cloud_X4_metOfAll rfl rfl rfl (by decide +kernel) ⟨Nat.le_of_ble_eq_true rfl, Nat.le_of_ble_eq_true rfl⟩ rfl rfl (Nat.le_of_ble_eq_true rfl) (mtX4_metOfAll E l   M6) dX7_cloud_69 rfl (fun r8 M7 _ => ?_)
      refine zz_iload_n (npc := 73) 1 rfl rfl dX7_cloud_72 rfl ?_
      refine zz_icmp_le (tgt := 86) (npc := 76) dX7_cloud_73 (by decide) rfl ?_ ?_
      · exact zX7_cloud_L86 E l (fX7_cloud_L23  n) ih y1 y2 y3 M7
      · refine zz_aload_n (npc := 77) 0 rfl rfl dX7_cloud_76 rfl ?_
        refine zz_getR (npc := 80) (i := 2) (C0 := RX7) (T := TX7) (N := 10) (by decide) (by rfl) rfl (by decide) iX7_cloud_7 (List.mem_of_getElem? (i := 1) rfl) rfl dX7_cloud_77 rfl ?_
        refine zz_callVi (npc := 83) (n := 0) (As := []) (by decide) (by rfl) rfl gX7_cloud_X4_metOfAll rfl rfl rfl (by decide +kernel) ⟨Nat.le_of_ble_eq_true rfl, Nat.le_of_ble_eq_true rfl⟩ rfl rfl (Nat.le_of_ble_eq_true rfl) (mtX4_metOfAll E l   M7) dX7_cloud_80 rfl (fun r10 M9 _ => ?_)
        refine zz_istore_n (npc := 84) (lv1 := [(1, .int r10), (0, .ref (eA E 0)), (2, .int y2), (3, .int y3)]) rfl dX7_cloud_83 rfl (by decide) rfl ?_
        refine zz_iload_n (npc := 85) 3 rfl rfl dX7_cloud_84 rfl ?_
        refine zz_istore_n (npc := 86) (lv1 := [(2, .int y3), (1, .int r10), (0, .ref (eA E 0)), (3, .int y3)]) rfl dX7_cloud_85 rfl (by decide) rfl ?_
        refine zz_sub (npc := 0) (lv1 := [(0, .ref (eA E 0)), (1, .int r10), (2, .int y3), (3, .int y3)]) [2, 1, 0, 3] rfl ?_
        exact zX7_cloud_L86 E l (fX7_cloud_L23  n) ih r10 y3 y3 M9
noncomputable def fX7_cloud   (M : Mem) : Option (Int32 × Mem) := (bd (fX4_see 1 M) fun _ M1 => (bd (fX4_metOfAll M1) fun r3 M2 => (fX7_cloud_L23  fu r3 (-1) 0 M2)))
set_option maxHeartbeats 4000000 in
set_option maxRecDepth 100000 in
theorem mtX7_cloud (E : EV) (l : Launch)    (M : Mem) : CT E l yX7_cloud wsX7_cloud rmX7_cloud vI [.ref (eA E 0)] (fX7_cloud  M) M := by
  refine ct_of (cc := cX7_cloud) (nL := 4) (ret := (some .int)) (by decide +kernel) rfl (Nat.le_of_ble_eq_true rfl) ?_
  show ZZ E l RX7 cX7_cloud 4 (some .int) wsX7_cloud rmX7_cloud vI (fX7_cloud  M) M [(0, .ref (eA E 0))] 0 []
  unfold fX7_cloud
  refine zz_aload_n (npc := 1) 0 rfl rfl dX7_cloud_0 rfl ?_
  refine zz_getR (npc := 4) (i := 2) (C0 := RX7) (T := TX7) (N := 10) (by decide) (by rfl) rfl (by decide) iX7_cloud_7 (List.mem_of_getElem? (i := 1) rfl) rfl dX7_cloud_1 rfl ?_
  refine zz_aload_n (npc := 5) 0 rfl rfl dX7_cloud_4 rfl ?_
  refine zz_getR (npc := 8) (i := 0) (C0 := RX7) (T := TX7) (N := 10) (by decide) (by rfl) rfl (by decide) iX7_cloud_7 (List.mem_of_getElem? (i := 2) rfl) rfl dX7_cloud_5 rfl ?_
  refine zz_callVv (npc := 11) (n := 1) (As := [.ref (eA E 1)]) (by decide) (by rfl) rfl gX7_cloud_X4_see rfl rfl rfl (by decide +kernel) ⟨Nat.le_of_ble_eq_true rfl, Nat.le_of_ble_eq_true rfl⟩ rfl rfl (Nat.le_of_ble_eq_true rfl) (mtX4_see E l 1 ld_c1  M) dX7_cloud_8 rfl (fun _ M1 _ => ?_)
  refine zz_aload_n (npc := 12) 0 rfl rfl dX7_cloud_11 rfl ?_
  refine zz_getR (npc := 15) (i := 2) (C0 := RX7) (T := TX7) (N := 10) (by decide) (by rfl) rfl (by decide) iX7_cloud_7 (List.mem_of_getElem? (i := 1) rfl) rfl dX7_cloud_12 rfl ?_
  refine zz_callVi (npc := 18) (n := 0) (As := []) (by decide) (by rfl) rfl gX7_cloud_X4_metOfAll rfl rfl rfl (by decide +kernel) ⟨Nat.le_of_ble_eq_true rfl, Nat.le_of_ble_eq_true rfl⟩ rfl rfl (Nat.le_of_ble_eq_true rfl) (mtX4_metOfAll E l   M1) dX7_cloud_15 rfl (fun r3 M2 _ => ?_)
  refine zz_istore_n (npc := 19) (lv1 := [(1, .int r3), (0, .ref (eA E 0))]) rfl dX7_cloud_18 rfl (by decide) rfl ?_
  refine zz_iconst (npc := 20) (-1) (by decide) dX7_cloud_19 rfl ?_
  refine zz_istore_n (npc := 21) (lv1 := [(2, .int (-1)), (1, .int r3), (0, .ref (eA E 0))]) rfl dX7_cloud_20 rfl (by decide) rfl ?_
  refine zz_iconst (npc := 22) 0 (by decide) dX7_cloud_21 rfl ?_
  refine zz_istore_n (npc := 23) (lv1 := [(3, .int 0), (2, .int (-1)), (1, .int r3), (0, .ref (eA E 0))]) rfl dX7_cloud_22 rfl (by decide) rfl ?_
  refine zz_sub (npc := 0) (lv1 := [(0, .ref (eA E 0)), (1, .int r3), (2, .int (-1)), (3, .int 0)]) [3, 2, 1, 0] rfl ?_
  exact zX7_cloud_L23 E l  fu r3 (-1) 0 M2
abbrev rmX7_agree : Room := { frames := 4, cells := 0, slots := 0, locals := 90 }
theorem iX7_agree_7 : ∀ w ∈ u_ws RX7 TX7 10, w ∈ wsX7_agree := fun w h => List.mem_cons_of_mem _ (List.mem_append_left _ (List.mem_append_left _ (List.mem_append_right _ h)))
noncomputable def fX7_agree  (x1 : Int32) (x2 : Int32) (M : Mem) : Option (Int32 × Mem) := (bd (fX1_areTwo 1 x1 x2 M) fun r2 M1 => (if r2 = 0 then (bd (fX7_found 0 M1) fun r7 M6 => (some (r7, M6))) else (bd (fX0_make 1 x1 x2 M1) fun _ M3 => (bd (fX0_metOfBoth M3) fun r5 M4 => (some (r5, M4))))))
set_option maxHeartbeats 4000000 in
set_option maxRecDepth 100000 in
theorem mtX7_agree (E : EV) (l : Launch)   (x1 : Int32) (x2 : Int32) (M : Mem) : CT E l yX7_agree wsX7_agree rmX7_agree vI [.ref (eA E 0), .int x1, .int x2] (fX7_agree x1 x2 M) M := by
  refine ct_of (cc := cX7_agree) (nL := 3) (ret := (some .int)) (by decide +kernel) rfl (Nat.le_of_ble_eq_true rfl) ?_
  show ZZ E l RX7 cX7_agree 3 (some .int) wsX7_agree rmX7_agree vI (fX7_agree x1 x2 M) M [(0, .ref (eA E 0)), (1, .int x1), (2, .int x2)] 0 []
  unfold fX7_agree
  refine zz_aload_n (npc := 1) 0 rfl rfl dX7_agree_0 rfl ?_
  refine zz_getR (npc := 4) (i := 0) (C0 := RX7) (T := TX7) (N := 10) (by decide) (by rfl) rfl (by decide) iX7_agree_7 (List.mem_of_getElem? (i := 1) rfl) rfl dX7_agree_1 rfl ?_
  refine zz_iload_n (npc := 5) 1 rfl rfl dX7_agree_4 rfl ?_
  refine zz_iload_n (npc := 6) 2 rfl rfl dX7_agree_5 rfl ?_
  refine zz_callVi (npc := 9) (n := 2) (As := [.int x1, .int x2]) (by decide) (by rfl) rfl gX7_agree_X1_areTwo rfl rfl rfl (by decide +kernel) ⟨Nat.le_of_ble_eq_true rfl, Nat.le_of_ble_eq_true rfl⟩ rfl rfl (Nat.le_of_ble_eq_true rfl) (mtX1_areTwo E l 1 ld_c1 x1 x2 M) dX7_agree_6 rfl (fun r2 M1 _ => ?_)
  refine zz_if_ne (tgt := 18) (npc := 12) dX7_agree_9 (by decide) rfl ?_ ?_
  · refine zz_aload_n (npc := 19) 0 rfl rfl dX7_agree_18 rfl ?_
    refine zz_getR (npc := 22) (i := 3) (C0 := RX7) (T := TX7) (N := 10) (by decide) (by rfl) rfl (by decide) iX7_agree_7 (List.mem_of_getElem? (i := 2) rfl) rfl dX7_agree_19 rfl ?_
    refine zz_aload_n (npc := 23) 0 rfl rfl dX7_agree_22 rfl ?_
    refine zz_getR (npc := 26) (i := 0) (C0 := RX7) (T := TX7) (N := 10) (by decide) (by rfl) rfl (by decide) iX7_agree_7 (List.mem_of_getElem? (i := 1) rfl) rfl dX7_agree_23 rfl ?_
    refine zz_iload_n (npc := 27) 1 rfl rfl dX7_agree_26 rfl ?_
    refine zz_iload_n (npc := 28) 2 rfl rfl dX7_agree_27 rfl ?_
    refine zz_callVv (npc := 31) (n := 3) (As := [.ref (eA E 1), .int x1, .int x2]) (by decide) (by rfl) rfl gX7_agree_X0_make rfl rfl rfl (by decide +kernel) ⟨Nat.le_of_ble_eq_true rfl, Nat.le_of_ble_eq_true rfl⟩ rfl rfl (Nat.le_of_ble_eq_true rfl) (mtX0_make E l 1 ld_c1 x1 x2 M1) dX7_agree_28 rfl (fun _ M3 _ => ?_)
    refine zz_aload_n (npc := 32) 0 rfl rfl dX7_agree_31 rfl ?_
    refine zz_getR (npc := 35) (i := 3) (C0 := RX7) (T := TX7) (N := 10) (by decide) (by rfl) rfl (by decide) iX7_agree_7 (List.mem_of_getElem? (i := 2) rfl) rfl dX7_agree_32 rfl ?_
    refine zz_callVi (npc := 38) (n := 0) (As := []) (by decide) (by rfl) rfl gX7_agree_X0_metOfBoth rfl rfl rfl (by decide +kernel) ⟨Nat.le_of_ble_eq_true rfl, Nat.le_of_ble_eq_true rfl⟩ rfl rfl (Nat.le_of_ble_eq_true rfl) (mtX0_metOfBoth E l   M3) dX7_agree_35 rfl (fun r5 M4 _ => ?_)
    exact zz_iret dX7_agree_38
  · refine zz_aload_n (npc := 13) 0 rfl rfl dX7_agree_12 rfl ?_
    refine zz_iconst (npc := 14) 0 (by decide) dX7_agree_13 rfl ?_
    refine zz_callVi (npc := 17) (n := 1) (As := [.int 0]) (by decide) (by rfl) rfl gX7_agree_X7_found rfl rfl rfl (by decide +kernel) ⟨Nat.le_of_ble_eq_true rfl, Nat.le_of_ble_eq_true rfl⟩ rfl rfl (Nat.le_of_ble_eq_true rfl) (mtX7_found E l  0 M1) dX7_agree_14 rfl (fun r7 M6 _ => ?_)
    exact zz_iret dX7_agree_17
abbrev rmX7_changes : Room := { frames := 4, cells := 0, slots := 0, locals := 90 }
theorem iX7_changes_7 : ∀ w ∈ u_ws RX7 TX7 10, w ∈ wsX7_changes := fun w h => List.mem_cons_of_mem _ (List.mem_append_left _ (List.mem_append_left _ (List.mem_append_right _ h)))
noncomputable def fX7_changes  (x1 : Int32) (x2 : Int32) (M : Mem) : Option (Int32 × Mem) := (bd (fX1_areTwo 1 x1 x2 M) fun r2 M1 => (if r2 = 0 then (bd (fX7_found 0 M1) fun r7 M6 => (some (r7, M6))) else (bd (fX0_make 1 x1 x2 M1) fun _ M3 => (bd (fX0_countChanges M3) fun r5 M4 => (some (r5, M4))))))
set_option maxHeartbeats 4000000 in
set_option maxRecDepth 100000 in
theorem mtX7_changes (E : EV) (l : Launch)   (x1 : Int32) (x2 : Int32) (M : Mem) : CT E l yX7_changes wsX7_changes rmX7_changes vI [.ref (eA E 0), .int x1, .int x2] (fX7_changes x1 x2 M) M := by
  refine ct_of (cc := cX7_changes) (nL := 3) (ret := (some .int)) (by decide +kernel) rfl (Nat.le_of_ble_eq_true rfl) ?_
  show ZZ E l RX7 cX7_changes 3 (some .int) wsX7_changes rmX7_changes vI (fX7_changes x1 x2 M) M [(0, .ref (eA E 0)), (1, .int x1), (2, .int x2)] 0 []
  unfold fX7_changes
  refine zz_aload_n (npc := 1) 0 rfl rfl dX7_changes_0 rfl ?_
  refine zz_getR (npc := 4) (i := 0) (C0 := RX7) (T := TX7) (N := 10) (by decide) (by rfl) rfl (by decide) iX7_changes_7 (List.mem_of_getElem? (i := 1) rfl) rfl dX7_changes_1 rfl ?_
  refine zz_iload_n (npc := 5) 1 rfl rfl dX7_changes_4 rfl ?_
  refine zz_iload_n (npc := 6) 2 rfl rfl dX7_changes_5 rfl ?_
  refine zz_callVi (npc := 9) (n := 2) (As := [.int x1, .int x2]) (by decide) (by rfl) rfl gX7_changes_X1_areTwo rfl rfl rfl (by decide +kernel) ⟨Nat.le_of_ble_eq_true rfl, Nat.le_of_ble_eq_true rfl⟩ rfl rfl (Nat.le_of_ble_eq_true rfl) (mtX1_areTwo E l 1 ld_c1 x1 x2 M) dX7_changes_6 rfl (fun r2 M1 _ => ?_)
  refine zz_if_ne (tgt := 18) (npc := 12) dX7_changes_9 (by decide) rfl ?_ ?_
  · refine zz_aload_n (npc := 19) 0 rfl rfl dX7_changes_18 rfl ?_
    refine zz_getR (npc := 22) (i := 3) (C0 := RX7) (T := TX7) (N := 10) (by decide) (by rfl) rfl (by decide) iX7_changes_7 (List.mem_of_getElem? (i := 2) rfl) rfl dX7_changes_19 rfl ?_
    refine zz_aload_n (npc := 23) 0 rfl rfl dX7_changes_22 rfl ?_
    refine zz_getR (npc := 26) (i := 0) (C0 := RX7) (T := TX7) (N := 10) (by decide) (by rfl) rfl (by decide) iX7_changes_7 (List.mem_of_getElem? (i := 1) rfl) rfl dX7_changes_23 rfl ?_
    refine zz_iload_n (npc := 27) 1 rfl rfl dX7_changes_26 rfl ?_
    refine zz_iload_n (npc := 28) 2 rfl rfl dX7_changes_27 rfl ?_
    refine zz_callVv (npc := 31) (n := 3) (As := [.ref (eA E 1), .int x1, .int x2]) (by decide) (by rfl) rfl gX7_changes_X0_make rfl rfl rfl (by decide +kernel) ⟨Nat.le_of_ble_eq_true rfl, Nat.le_of_ble_eq_true rfl⟩ rfl rfl (Nat.le_of_ble_eq_true rfl) (mtX0_make E l 1 ld_c1 x1 x2 M1) dX7_changes_28 rfl (fun _ M3 _ => ?_)
    refine zz_aload_n (npc := 32) 0 rfl rfl dX7_changes_31 rfl ?_
    refine zz_getR (npc := 35) (i := 3) (C0 := RX7) (T := TX7) (N := 10) (by decide) (by rfl) rfl (by decide) iX7_changes_7 (List.mem_of_getElem? (i := 2) rfl) rfl dX7_changes_32 rfl ?_
    refine zz_callVi (npc := 38) (n := 0) (As := []) (by decide) (by rfl) rfl gX7_changes_X0_countChanges rfl rfl rfl (by decide +kernel) ⟨Nat.le_of_ble_eq_true rfl, Nat.le_of_ble_eq_true rfl⟩ rfl rfl (Nat.le_of_ble_eq_true rfl) (mtX0_countChanges E l   M3) dX7_changes_35 rfl (fun r5 M4 _ => ?_)
    exact zz_iret dX7_changes_38
  · refine zz_aload_n (npc := 13) 0 rfl rfl dX7_changes_12 rfl ?_
    refine zz_iconst (npc := 14) 0 (by decide) dX7_changes_13 rfl ?_
    refine zz_callVi (npc := 17) (n := 1) (As := [.int 0]) (by decide) (by rfl) rfl gX7_changes_X7_found rfl rfl rfl (by decide +kernel) ⟨Nat.le_of_ble_eq_true rfl, Nat.le_of_ble_eq_true rfl⟩ rfl rfl (Nat.le_of_ble_eq_true rfl) (mtX7_found E l  0 M1) dX7_changes_14 rfl (fun r7 M6 _ => ?_)
    exact zz_iret dX7_changes_17
abbrev rmX7_holder : Room := { frames := 4, cells := 0, slots := 0, locals := 90 }
theorem iX7_holder_7 : ∀ w ∈ u_ws RX7 TX7 10, w ∈ wsX7_holder := fun w h => List.mem_cons_of_mem _ (List.mem_append_left _ (List.mem_append_left _ (List.mem_append_right _ h)))
noncomputable def fX7_holder_L21    (M : Mem) : Option (Int32 × Mem) := (bd (fX7_found 0 M) fun r11 M10 => (some (r11, M10)))
set_option maxHeartbeats 4000000 in
set_option maxRecDepth 100000 in
theorem zX7_holder_L21 (E : EV) (l : Launch)     : ∀  (M : Mem), ZZ E l RX7 cX7_holder 5 (some .int) wsX7_holder rmX7_holder vI (fX7_holder_L21 M) M [(0, .ref (eA E 0))] 21 [] := by
  intro M
  unfold fX7_holder_L21
  refine zz_aload_n (npc := 22) 0 rfl rfl dX7_holder_21 rfl ?_
  refine zz_iconst (npc := 23) 0 (by decide) dX7_holder_22 rfl ?_
  refine zz_callVi (npc := 26) (n := 1) (As := [.int 0]) (by decide) (by rfl) rfl gX7_holder_X7_found rfl rfl rfl (by decide +kernel) ⟨Nat.le_of_ble_eq_true rfl, Nat.le_of_ble_eq_true rfl⟩ rfl rfl (Nat.le_of_ble_eq_true rfl) (mtX7_found E l  0 M) dX7_holder_23 rfl (fun r11 M10 _ => ?_)
  exact zz_iret dX7_holder_26
noncomputable def fX7_holder  (x1 : Int32) (x2 : Int32) (x3 : Int32) (M : Mem) : Option (Int32 × Mem) := (bd (fX1_areTwo 1 x1 x2 M) fun r2 M1 => (if r2 = 0 then (fX7_holder_L21  M1) else (bd (fX7_isWithin x3 15 M1) fun r4 M3 => (if r4 = 0 then (fX7_holder_L21  M3) else (bd (fX0_make 1 x1 x2 M3) fun _ M5 => (bd (fX0_holderAt x3 M5) fun r7 M6 => (if r7 = (-1) then (bd (fX7_found 3 M6) fun r9 M8 => (some (r9, M8))) else (some (r7, M6)))))))))
set_option maxHeartbeats 4000000 in
set_option maxRecDepth 100000 in
theorem mtX7_holder (E : EV) (l : Launch)   (x1 : Int32) (x2 : Int32) (x3 : Int32) (M : Mem) : CT E l yX7_holder wsX7_holder rmX7_holder vI [.ref (eA E 0), .int x1, .int x2, .int x3] (fX7_holder x1 x2 x3 M) M := by
  refine ct_of (cc := cX7_holder) (nL := 5) (ret := (some .int)) (by decide +kernel) rfl (Nat.le_of_ble_eq_true rfl) ?_
  show ZZ E l RX7 cX7_holder 5 (some .int) wsX7_holder rmX7_holder vI (fX7_holder x1 x2 x3 M) M [(0, .ref (eA E 0)), (1, .int x1), (2, .int x2), (3, .int x3)] 0 []
  unfold fX7_holder
  refine zz_aload_n (npc := 1) 0 rfl rfl dX7_holder_0 rfl ?_
  refine zz_getR (npc := 4) (i := 0) (C0 := RX7) (T := TX7) (N := 10) (by decide) (by rfl) rfl (by decide) iX7_holder_7 (List.mem_of_getElem? (i := 1) rfl) rfl dX7_holder_1 rfl ?_
  refine zz_iload_n (npc := 5) 1 rfl rfl dX7_holder_4 rfl ?_
  refine zz_iload_n (npc := 6) 2 rfl rfl dX7_holder_5 rfl ?_
  refine zz_callVi (npc := 9) (n := 2) (As := [.int x1, .int x2]) (by decide) (by rfl) rfl gX7_holder_X1_areTwo rfl rfl rfl (by decide +kernel) ⟨Nat.le_of_ble_eq_true rfl, Nat.le_of_ble_eq_true rfl⟩ rfl rfl (Nat.le_of_ble_eq_true rfl) (mtX1_areTwo E l 1 ld_c1 x1 x2 M) dX7_holder_6 rfl (fun r2 M1 _ => ?_)
  refine zz_if_eq (tgt := 21) (npc := 12) dX7_holder_9 (by decide) rfl ?_ ?_
  · refine zz_sub (npc := 0) (lv1 := [(0, .ref (eA E 0))]) [0] rfl ?_
    exact zX7_holder_L21 E l  M1
  · refine zz_iload_n (npc := 13) 3 rfl rfl dX7_holder_12 rfl ?_
    refine zz_bipush (npc := 15) 15 (by decide) dX7_holder_13 rfl ?_
    refine zz_callSi (npc := 18) (n := 2) (As := [.int x3, .int 15]) gX7_holder_X7_isWithin rfl rfl rfl (by decide +kernel) ⟨Nat.le_of_ble_eq_true rfl, Nat.le_of_ble_eq_true rfl⟩ rfl rfl (Nat.le_of_ble_eq_true rfl) (mtX7_isWithin E l  x3 15 M1) dX7_holder_15 rfl (fun r4 M3 _ => ?_)
    refine zz_if_ne (tgt := 27) (npc := 21) dX7_holder_18 (by decide) rfl ?_ ?_
    · refine zz_aload_n (npc := 28) 0 rfl rfl dX7_holder_27 rfl ?_
      refine zz_getR (npc := 31) (i := 3) (C0 := RX7) (T := TX7) (N := 10) (by decide) (by rfl) rfl (by decide) iX7_holder_7 (List.mem_of_getElem? (i := 2) rfl) rfl dX7_holder_28 rfl ?_
      refine zz_aload_n (npc := 32) 0 rfl rfl dX7_holder_31 rfl ?_
      refine zz_getR (npc := 35) (i := 0) (C0 := RX7) (T := TX7) (N := 10) (by decide) (by rfl) rfl (by decide) iX7_holder_7 (List.mem_of_getElem? (i := 1) rfl) rfl dX7_holder_32 rfl ?_
      refine zz_iload_n (npc := 36) 1 rfl rfl dX7_holder_35 rfl ?_
      refine zz_iload_n (npc := 37) 2 rfl rfl dX7_holder_36 rfl ?_
      refine zz_callVv (npc := 40) (n := 3) (As := [.ref (eA E 1), .int x1, .int x2]) (by decide) (by rfl) rfl gX7_holder_X0_make rfl rfl rfl (by decide +kernel) ⟨Nat.le_of_ble_eq_true rfl, Nat.le_of_ble_eq_true rfl⟩ rfl rfl (Nat.le_of_ble_eq_true rfl) (mtX0_make E l 1 ld_c1 x1 x2 M3) dX7_holder_37 rfl (fun _ M5 _ => ?_)
      refine zz_aload_n (npc := 41) 0 rfl rfl dX7_holder_40 rfl ?_
      refine zz_getR (npc := 44) (i := 3) (C0 := RX7) (T := TX7) (N := 10) (by decide) (by rfl) rfl (by decide) iX7_holder_7 (List.mem_of_getElem? (i := 2) rfl) rfl dX7_holder_41 rfl ?_
      refine zz_iload_n (npc := 45) 3 rfl rfl dX7_holder_44 rfl ?_
      refine zz_callVi (npc := 48) (n := 1) (As := [.int x3]) (by decide) (by rfl) rfl gX7_holder_X0_holderAt rfl rfl rfl (by decide +kernel) ⟨Nat.le_of_ble_eq_true rfl, Nat.le_of_ble_eq_true rfl⟩ rfl rfl (Nat.le_of_ble_eq_true rfl) (mtX0_holderAt E l  x3 M5) dX7_holder_45 rfl (fun r7 M6 _ => ?_)
      refine zz_istore (npc := 50) (lv1 := [(4, .int r7), (0, .ref (eA E 0)), (1, .int x1), (2, .int x2), (3, .int x3)]) dX7_holder_48 rfl (by decide) rfl ?_
      refine zz_iload (npc := 52) 0 rfl dX7_holder_50 rfl ?_
      refine zz_iconst (npc := 53) (-1) (by decide) dX7_holder_52 rfl ?_
      refine zz_icmp_ne (tgt := 64) (npc := 56) dX7_holder_53 (by decide) rfl ?_ ?_
      · refine zz_iload (npc := 66) 0 rfl dX7_holder_64 rfl ?_
        exact zz_iret dX7_holder_66
      · refine zz_aload_n (npc := 57) 1 rfl rfl dX7_holder_56 rfl ?_
        refine zz_iconst (npc := 58) 3 (by decide) dX7_holder_57 rfl ?_
        refine zz_callVi (npc := 61) (n := 1) (As := [.int 3]) (by decide) (by rfl) rfl gX7_holder_X7_found rfl rfl rfl (by decide +kernel) ⟨Nat.le_of_ble_eq_true rfl, Nat.le_of_ble_eq_true rfl⟩ rfl rfl (Nat.le_of_ble_eq_true rfl) (mtX7_found E l  3 M6) dX7_holder_58 rfl (fun r9 M8 _ => ?_)
        refine zz_goto (npc := 0) (tgt := 66) dX7_holder_61 (by decide) ?_
        exact zz_iret dX7_holder_66
    · refine zz_sub (npc := 0) (lv1 := [(0, .ref (eA E 0))]) [0] rfl ?_
      exact zX7_holder_L21 E l  M3
abbrev rmX7_gain : Room := { frames := 4, cells := 0, slots := 0, locals := 142 }
theorem iX7_gain_4 : ∀ w ∈ u_ws RX4 TX4 4, w ∈ wsX7_gain := fun w h => List.mem_cons_of_mem _ (List.mem_append_left _ (List.mem_append_left _ (List.mem_append_right _ h)))
theorem iX7_gain_7 : ∀ w ∈ u_ws RX7 TX7 10, w ∈ wsX7_gain := fun w h => List.mem_cons_of_mem _ (List.mem_append_left _ (List.mem_append_left _ (List.mem_append_left _ (List.mem_append_right _ h))))
noncomputable def fX7_gain  (x1 : Int32) (x2 : Int32) (M : Mem) : Option (Int32 × Mem) := (bd (fX1_areTwo 1 x1 x2 M) fun r2 M1 => (if r2 = 0 then (bd (fX7_found 0 M1) fun r14 M13 => (some (r14, M13))) else (bd (fX0_make 1 x1 x2 M1) fun _ M3 => (bd (fX4_begin 1 M3) fun _ M4 => (bd (fX1_join 16 x1 x2 M4) fun _ M5 => (bd (fX4_run M5) fun _ M6 => (bd (fX0_metOfBoth M6) fun r8 M7 => (bd (fX4_metOf x1 M7) fun r10 M9 => (bd (fX4_metOf x2 M9) fun r12 M11 => (some ((r8 - r10) - r12, M11)))))))))))
set_option maxHeartbeats 4000000 in
set_option maxRecDepth 100000 in
theorem mtX7_gain (E : EV) (l : Launch)   (x1 : Int32) (x2 : Int32) (M : Mem) : CT E l yX7_gain wsX7_gain rmX7_gain vI [.ref (eA E 0), .int x1, .int x2] (fX7_gain x1 x2 M) M := by
  refine ct_of (cc := cX7_gain) (nL := 3) (ret := (some .int)) (by decide +kernel) rfl (Nat.le_of_ble_eq_true rfl) ?_
  show ZZ E l RX7 cX7_gain 3 (some .int) wsX7_gain rmX7_gain vI (fX7_gain x1 x2 M) M [(0, .ref (eA E 0)), (1, .int x1), (2, .int x2)] 0 []
  unfold fX7_gain
  refine zz_aload_n (npc := 1) 0 rfl rfl dX7_gain_0 rfl ?_
  refine zz_getR (npc := 4) (i := 0) (C0 := RX7) (T := TX7) (N := 10) (by decide) (by rfl) rfl (by decide) iX7_gain_7 (List.mem_of_getElem? (i := 1) rfl) rfl dX7_gain_1 rfl ?_
  refine zz_iload_n (npc := 5) 1 rfl rfl dX7_gain_4 rfl ?_
  refine zz_iload_n (npc := 6) 2 rfl rfl dX7_gain_5 rfl ?_
  refine zz_callVi (npc := 9) (n := 2) (As := [.int x1, .int x2]) (by decide) (by rfl) rfl gX7_gain_X1_areTwo rfl rfl rfl (by decide +kernel) ⟨Nat.le_of_ble_eq_true rfl, Nat.le_of_ble_eq_true rfl⟩ rfl rfl (Nat.le_of_ble_eq_true rfl) (mtX1_areTwo E l 1 ld_c1 x1 x2 M) dX7_gain_6 rfl (fun r2 M1 _ => ?_)
  refine zz_if_ne (tgt := 18) (npc := 12) dX7_gain_9 (by decide) rfl ?_ ?_
  · refine zz_aload_n (npc := 19) 0 rfl rfl dX7_gain_18 rfl ?_
    refine zz_getR (npc := 22) (i := 3) (C0 := RX7) (T := TX7) (N := 10) (by decide) (by rfl) rfl (by decide) iX7_gain_7 (List.mem_of_getElem? (i := 2) rfl) rfl dX7_gain_19 rfl ?_
    refine zz_aload_n (npc := 23) 0 rfl rfl dX7_gain_22 rfl ?_
    refine zz_getR (npc := 26) (i := 0) (C0 := RX7) (T := TX7) (N := 10) (by decide) (by rfl) rfl (by decide) iX7_gain_7 (List.mem_of_getElem? (i := 1) rfl) rfl dX7_gain_23 rfl ?_
    refine zz_iload_n (npc := 27) 1 rfl rfl dX7_gain_26 rfl ?_
    refine zz_iload_n (npc := 28) 2 rfl rfl dX7_gain_27 rfl ?_
    refine zz_callVv (npc := 31) (n := 3) (As := [.ref (eA E 1), .int x1, .int x2]) (by decide) (by rfl) rfl gX7_gain_X0_make rfl rfl rfl (by decide +kernel) ⟨Nat.le_of_ble_eq_true rfl, Nat.le_of_ble_eq_true rfl⟩ rfl rfl (Nat.le_of_ble_eq_true rfl) (mtX0_make E l 1 ld_c1 x1 x2 M1) dX7_gain_28 rfl (fun _ M3 _ => ?_)
    refine zz_aload_n (npc := 32) 0 rfl rfl dX7_gain_31 rfl ?_
    refine zz_getR (npc := 35) (i := 2) (C0 := RX7) (T := TX7) (N := 10) (by decide) (by rfl) rfl (by decide) iX7_gain_7 (List.mem_of_getElem? (i := 3) rfl) rfl dX7_gain_32 rfl ?_
    refine zz_aload_n (npc := 36) 0 rfl rfl dX7_gain_35 rfl ?_
    refine zz_getR (npc := 39) (i := 0) (C0 := RX7) (T := TX7) (N := 10) (by decide) (by rfl) rfl (by decide) iX7_gain_7 (List.mem_of_getElem? (i := 1) rfl) rfl dX7_gain_36 rfl ?_
    refine zz_callVv (npc := 42) (n := 1) (As := [.ref (eA E 1)]) (by decide) (by rfl) rfl gX7_gain_X4_begin rfl rfl rfl (by decide +kernel) ⟨Nat.le_of_ble_eq_true rfl, Nat.le_of_ble_eq_true rfl⟩ rfl rfl (Nat.le_of_ble_eq_true rfl) (mtX4_begin E l 1 ld_c1  M3) dX7_gain_39 rfl (fun _ M4 _ => ?_)
    refine zz_aload_n (npc := 43) 0 rfl rfl dX7_gain_42 rfl ?_
    refine zz_getR (npc := 46) (i := 2) (C0 := RX7) (T := TX7) (N := 10) (by decide) (by rfl) rfl (by decide) iX7_gain_7 (List.mem_of_getElem? (i := 3) rfl) rfl dX7_gain_43 rfl ?_
    refine zz_getR (npc := 49) (i := 0) (C0 := RX4) (T := TX4) (N := 4) (by decide) (by rfl) rfl (by decide) iX7_gain_4 (List.mem_of_getElem? (i := 4) rfl) rfl dX7_gain_46 rfl ?_
    refine zz_iload_n (npc := 50) 1 rfl rfl dX7_gain_49 rfl ?_
    refine zz_iload_n (npc := 51) 2 rfl rfl dX7_gain_50 rfl ?_
    refine zz_callVv (npc := 54) (n := 2) (As := [.int x1, .int x2]) (by decide) (by rfl) rfl gX7_gain_X1_join rfl rfl rfl (by decide +kernel) ⟨Nat.le_of_ble_eq_true rfl, Nat.le_of_ble_eq_true rfl⟩ rfl rfl (Nat.le_of_ble_eq_true rfl) (mtX1_join E l 16 ld_c16 x1 x2 M4) dX7_gain_51 rfl (fun _ M5 _ => ?_)
    refine zz_aload_n (npc := 55) 0 rfl rfl dX7_gain_54 rfl ?_
    refine zz_getR (npc := 58) (i := 2) (C0 := RX7) (T := TX7) (N := 10) (by decide) (by rfl) rfl (by decide) iX7_gain_7 (List.mem_of_getElem? (i := 3) rfl) rfl dX7_gain_55 rfl ?_
    refine zz_callVv (npc := 61) (n := 0) (As := []) (by decide) (by rfl) rfl gX7_gain_X4_run rfl rfl rfl (by decide +kernel) ⟨Nat.le_of_ble_eq_true rfl, Nat.le_of_ble_eq_true rfl⟩ rfl rfl (Nat.le_of_ble_eq_true rfl) (mtX4_run E l   M5) dX7_gain_58 rfl (fun _ M6 _ => ?_)
    refine zz_aload_n (npc := 62) 0 rfl rfl dX7_gain_61 rfl ?_
    refine zz_getR (npc := 65) (i := 3) (C0 := RX7) (T := TX7) (N := 10) (by decide) (by rfl) rfl (by decide) iX7_gain_7 (List.mem_of_getElem? (i := 2) rfl) rfl dX7_gain_62 rfl ?_
    refine zz_callVi (npc := 68) (n := 0) (As := []) (by decide) (by rfl) rfl gX7_gain_X0_metOfBoth rfl rfl rfl (by decide +kernel) ⟨Nat.le_of_ble_eq_true rfl, Nat.le_of_ble_eq_true rfl⟩ rfl rfl (Nat.le_of_ble_eq_true rfl) (mtX0_metOfBoth E l   M6) dX7_gain_65 rfl (fun r8 M7 _ => ?_)
    refine zz_aload_n (npc := 69) 0 rfl rfl dX7_gain_68 rfl ?_
    refine zz_getR (npc := 72) (i := 2) (C0 := RX7) (T := TX7) (N := 10) (by decide) (by rfl) rfl (by decide) iX7_gain_7 (List.mem_of_getElem? (i := 3) rfl) rfl dX7_gain_69 rfl ?_
    refine zz_iload_n (npc := 73) 1 rfl rfl dX7_gain_72 rfl ?_
    refine zz_callVi (npc := 76) (n := 1) (As := [.int x1]) (by decide) (by rfl) rfl gX7_gain_X4_metOf rfl rfl rfl (by decide +kernel) ⟨Nat.le_of_ble_eq_true rfl, Nat.le_of_ble_eq_true rfl⟩ rfl rfl (Nat.le_of_ble_eq_true rfl) (mtX4_metOf E l  x1 M7) dX7_gain_73 rfl (fun r10 M9 _ => ?_)
    refine zz_isub (npc := 77) dX7_gain_76 rfl ?_
    refine zz_aload_n (npc := 78) 0 rfl rfl dX7_gain_77 rfl ?_
    refine zz_getR (npc := 81) (i := 2) (C0 := RX7) (T := TX7) (N := 10) (by decide) (by rfl) rfl (by decide) iX7_gain_7 (List.mem_of_getElem? (i := 3) rfl) rfl dX7_gain_78 rfl ?_
    refine zz_iload_n (npc := 82) 2 rfl rfl dX7_gain_81 rfl ?_
    refine zz_callVi (npc := 85) (n := 1) (As := [.int x2]) (by decide) (by rfl) rfl gX7_gain_X4_metOf rfl rfl rfl (by decide +kernel) ⟨Nat.le_of_ble_eq_true rfl, Nat.le_of_ble_eq_true rfl⟩ rfl rfl (Nat.le_of_ble_eq_true rfl) (mtX4_metOf E l  x2 M9) dX7_gain_82 rfl (fun r12 M11 _ => ?_)
    refine zz_isub (npc := 86) dX7_gain_85 rfl ?_
    exact zz_iret dX7_gain_86
  · refine zz_aload_n (npc := 13) 0 rfl rfl dX7_gain_12 rfl ?_
    refine zz_iconst (npc := 14) 0 (by decide) dX7_gain_13 rfl ?_
    refine zz_callVi (npc := 17) (n := 1) (As := [.int 0]) (by decide) (by rfl) rfl gX7_gain_X7_found rfl rfl rfl (by decide +kernel) ⟨Nat.le_of_ble_eq_true rfl, Nat.le_of_ble_eq_true rfl⟩ rfl rfl (Nat.le_of_ble_eq_true rfl) (mtX7_found E l  0 M1) dX7_gain_14 rfl (fun r14 M13 _ => ?_)
    exact zz_iret dX7_gain_17
abbrev rmX7_weighByAgreements : Room := { frames := 5, cells := 0, slots := 0, locals := 116 }
theorem iX7_weighByAgreements_1 : ∀ w ∈ u_ws RX1 TX1 12, w ∈ wsX7_weighByAgreements := fun w h => List.mem_cons_of_mem _ (List.mem_append_left _ (List.mem_append_left _ (List.mem_append_right _ h)))
theorem iX7_weighByAgreements_7 : ∀ w ∈ u_ws RX7 TX7 10, w ∈ wsX7_weighByAgreements := fun w h => List.mem_cons_of_mem _ (List.mem_append_left _ (List.mem_append_left _ (List.mem_append_left _ (List.mem_append_right _ h))))
noncomputable def fX7_weighByAgreements_L46  (k2 : Int32 → Mem → Option (Unit × Mem)) : Nat → Int32 → Int32 → Mem → Option (Unit × Mem)
  | 0, _, _, _ => none
  | n + 1, y1, y2, M => (if (M 1 6) ≤ y2 then (bv (y1 + 1) fun v10 => (k2 v10 M)) else (bd (fX0_make 1 y1 y2 M) fun _ M11 => (bd (fX0_metOfBoth M11) fun r13 M12 => (bd (fX2_value y1 y2 r13 M12) fun _ M14 => (bv (y2 + 1) fun v15 => (fX7_weighByAgreements_L46 k2 n y1 v15 M14))))))
set_option maxHeartbeats 4000000 in
set_option maxRecDepth 100000 in
theorem zX7_weighByAgreements_L46 (E : EV) (l : Launch)   (k2 : Int32 → Mem → Option (Unit × Mem)) (hk2 : ∀ (y1_ : Int32) (M_ : Mem), ZZ E l RX7 cX7_weighByAgreements 3 none wsX7_weighByAgreements rmX7_weighByAgreements vV (k2 y1_ M_) M_ [(0, .ref (eA E 0)), (1, .int y1_)] 2 []) : ∀ (n : Nat) (y1 : Int32) (y2 : Int32) (M : Mem), ZZ E l RX7 cX7_weighByAgreements 3 none wsX7_weighByAgreements rmX7_weighByAgreements vV (fX7_weighByAgreements_L46 k2 n y1 y2 M) M [(0, .ref (eA E 0)), (1, .int y1), (2, .int y2)] 46 [] := by
  intro n
  induction n with
  | zero => intros; exact zz_none
  | succ n ih =>
    intro y1 y2 M
    rw [fX7_weighByAgreements_L46]
    refine zz_iload_n (npc := 47) 2 rfl rfl dX7_weighByAgreements_46 rfl ?_
    refine zz_aload_n (npc := 48) 0 rfl rfl dX7_weighByAgreements_47 rfl ?_
    refine zz_getR (npc := 51) (i := 0) (C0 := RX7) (T := TX7) (N := 10) (by decide) (by rfl) rfl (by decide) iX7_weighByAgreements_7 (List.mem_of_getElem? (i := 1) rfl) rfl dX7_weighByAgreements_48 rfl ?_
    refine zz_getI (npc := 54) (i := 6) (C0 := RX1) (T := TX1) (N := 12) (by decide) (by rfl) rfl (by decide) iX7_weighByAgreements_1 (List.mem_of_getElem? (i := 2) rfl) rfl dX7_weighByAgreements_51 rfl ?_
    refine zz_icmp_ge (tgt := 92) (npc := 57) dX7_weighByAgreements_54 (by decide) rfl ?_ ?_
    · refine zz_iincB (npc := 95) (y1 + 1) (lv1 := fun v10 => [(1, .int v10), (0, .ref (eA E 0)), (2, .int y2)]) dX7_weighByAgreements_92 rfl 1 rfl rfl (by decide) (fun _ => rfl) (fun v10 => ?_)
      refine zz_goto (npc := 0) (tgt := 2) dX7_weighByAgreements_95 (by decide) ?_
      refine zz_sub (npc := 0) (lv1 := [(0, .ref (eA E 0)), (1, .int v10)]) [1, 0] rfl ?_
      exact hk2 v10 M
    · refine zz_aload_n (npc := 58) 0 rfl rfl dX7_weighByAgreements_57 rfl ?_
      refine zz_getR (npc := 61) (i := 3) (C0 := RX7) (T := TX7) (N := 10) (by decide) (by rfl) rfl (by decide) iX7_weighByAgreements_7 (List.mem_of_getElem? (i := 5) rfl) rfl dX7_weighByAgreements_58 rfl ?_
      refine zz_aload_n (npc := 62) 0 rfl rfl dX7_weighByAgreements_61 rfl ?_
      refine zz_getR (npc := 65) (i := 0) (C0 := RX7) (T := TX7) (N := 10) (by decide) (by rfl) rfl (by decide) iX7_weighByAgreements_7 (List.mem_of_getElem? (i := 1) rfl) rfl dX7_weighByAgreements_62 rfl ?_
      refine zz_iload_n (npc := 66) 1 rfl rfl dX7_weighByAgreements_65 rfl ?_
      refine zz_iload_n (npc := 67) 2 rfl rfl dX7_weighByAgreements_66 rfl ?_
      refine zz_callVv (npc := 70) (n := 3) (As := [.ref (eA E 1), .int y1, .int y2]) (by decide) (by rfl) rfl gX7_weighByAgreements_X0_make rfl rfl rfl (by decide +kernel) ⟨Nat.le_of_ble_eq_true rfl, Nat.le_of_ble_eq_true rfl⟩ rfl rfl (Nat.le_of_ble_eq_true rfl) (mtX0_make E l 1 ld_c1 y1 y2 M) dX7_weighByAgreements_67 rfl (fun _ M11 _ => ?_)
      refine zz_aload_n (npc := 71) 0 rfl rfl dX7_weighByAgreements_70 rfl ?_
      refine zz_getR (npc := 74) (i := 4) (C0 := RX7) (T := TX7) (N := 10) (by decide) (by rfl) rfl (by decide) iX7_weighByAgreements_7 (List.mem_of_getElem? (i := 3) rfl) rfl dX7_weighByAgreements_71 rfl ?_
      refine zz_iload_n (npc := 75) 1 rfl rfl dX7_weighByAgreements_74 rfl ?_
      refine zz_iload_n (npc := 76) 2 rfl rfl dX7_weighByAgreements_75 rfl ?_
      refine zz_aload_n (npc := 77) 0 rfl rfl dX7_weighByAgreements_76 rfl ?_
      refine zz_getR (npc := 80) (i := 3) (C0 := RX7) (T := TX7) (N := 10) (by decide) (by rfl) rfl (by decide) iX7_weighByAgreements_7 (List.mem_of_getElem? (i := 5) rfl) rfl dX7_weighByAgreements_77 rfl ?_
      refine zz_callVi (npc := 83) (n := 0) (As := []) (by decide) (by rfl) rfl gX7_weighByAgreements_X0_metOfBoth rfl rfl rfl (by decide +kernel) ⟨Nat.le_of_ble_eq_true rfl, Nat.le_of_ble_eq_true rfl⟩ rfl rfl (Nat.le_of_ble_eq_true rfl) (mtX0_metOfBoth E l   M11) dX7_weighByAgreements_80 rfl (fun r13 M12 _ => ?_)
      refine zz_callVv (npc := 86) (n := 3) (As := [.int y1, .int y2, .int r13]) (by decide) (by rfl) rfl gX7_weighByAgreements_X2_value rfl rfl rfl (by decide +kernel) ⟨Nat.le_of_ble_eq_true rfl, Nat.le_of_ble_eq_true rfl⟩ rfl rfl (Nat.le_of_ble_eq_true rfl) (mtX2_value E l  y1 y2 r13 M12) dX7_weighByAgreements_83 rfl (fun _ M14 _ => ?_)
      refine zz_iincB (npc := 89) (y2 + 1) (lv1 := fun v15 => [(2, .int v15), (0, .ref (eA E 0)), (1, .int y1)]) dX7_weighByAgreements_86 rfl 2 rfl rfl (by decide) (fun _ => rfl) (fun v15 => ?_)
      refine zz_goto (npc := 0) (tgt := 46) dX7_weighByAgreements_89 (by decide) ?_
      refine zz_sub (npc := 0) (lv1 := [(0, .ref (eA E 0)), (1, .int y1), (2, .int v15)]) [1, 2, 0] rfl ?_
      exact ih y1 v15 M14
noncomputable def fX7_weighByAgreements_L2   : Nat → Int32 → Mem → Option (Unit × Mem)
  | 0, _, _ => none
  | n + 1, y1, M => (if (M 1 6) ≤ y1 then (bd (fX1_everybody 1 M) fun r2 M1 => (bd (fX2_weigh r2 M1) fun _ M3 => (some ((), M3)))) else (ck (inb y1 8) (bd (fX1_hoursLeft 1 M) fun r5 M4 => (bd (fJ6_bitCount_0f7a4 ((M 5 (ix y1)) &&& r5) M4) fun r7 M6 => (bd (fX2_value y1 y1 r7 M6) fun _ M8 => (bv (y1 + 1) fun v9 => (fX7_weighByAgreements_L46 (fX7_weighByAgreements_L2  n) fu y1 v9 M8)))))))
set_option maxHeartbeats 4000000 in
set_option maxRecDepth 100000 in
theorem zX7_weighByAgreements_L2 (E : EV) (l : Launch)     : ∀ (n : Nat) (y1 : Int32) (M : Mem), ZZ E l RX7 cX7_weighByAgreements 3 none wsX7_weighByAgreements rmX7_weighByAgreements vV (fX7_weighByAgreements_L2 n y1 M) M [(0, .ref (eA E 0)), (1, .int y1)] 2 [] := by
  intro n
  induction n with
  | zero => intros; exact zz_none
  | succ n ih =>
    intro y1 M
    rw [fX7_weighByAgreements_L2]
    refine zz_iload_n (npc := 3) 1 rfl rfl dX7_weighByAgreements_2 rfl ?_
    refine zz_aload_n (npc := 4) 0 rfl rfl dX7_weighByAgreements_3 rfl ?_
    refine zz_getR (npc := 7) (i := 0) (C0 := RX7) (T := TX7) (N := 10) (by decide) (by rfl) rfl (by decide) iX7_weighByAgreements_7 (List.mem_of_getElem? (i := 1) rfl) rfl dX7_weighByAgreements_4 rfl ?_
    refine zz_getI (npc := 10) (i := 6) (C0 := RX1) (T := TX1) (N := 12) (by decide) (by rfl) rfl (by decide) iX7_weighByAgreements_1 (List.mem_of_getElem? (i := 2) rfl) rfl dX7_weighByAgreements_7 rfl ?_
    refine zz_icmp_ge (tgt := 98) (npc := 13) dX7_weighByAgreements_10 (by decide) rfl ?_ ?_
    · refine zz_aload_n (npc := 99) 0 rfl rfl dX7_weighByAgreements_98 rfl ?_
      refine zz_getR (npc := 102) (i := 4) (C0 := RX7) (T := TX7) (N := 10) (by decide) (by rfl) rfl (by decide) iX7_weighByAgreements_7 (List.mem_of_getElem? (i := 3) rfl) rfl dX7_weighByAgreements_99 rfl ?_
      refine zz_aload_n (npc := 103) 0 rfl rfl dX7_weighByAgreements_102 rfl ?_
      refine zz_getR (npc := 106) (i := 0) (C0 := RX7) (T := TX7) (N := 10) (by decide) (by rfl) rfl (by decide) iX7_weighByAgreements_7 (List.mem_of_getElem? (i := 1) rfl) rfl dX7_weighByAgreements_103 rfl ?_
      refine zz_callVi (npc := 109) (n := 0) (As := []) (by decide) (by rfl) rfl gX7_weighByAgreements_X1_everybody rfl rfl rfl (by decide +kernel) ⟨Nat.le_of_ble_eq_true rfl, Nat.le_of_ble_eq_true rfl⟩ rfl rfl (Nat.le_of_ble_eq_true rfl) (mtX1_everybody E l 1 ld_c1  M) dX7_weighByAgreements_106 rfl (fun r2 M1 _ => ?_)
      refine zz_callVv (npc := 112) (n := 1) (As := [.int r2]) (by decide) (by rfl) rfl gX7_weighByAgreements_X2_weigh rfl rfl rfl (by decide +kernel) ⟨Nat.le_of_ble_eq_true rfl, Nat.le_of_ble_eq_true rfl⟩ rfl rfl (Nat.le_of_ble_eq_true rfl) (mtX2_weigh E l  r2 M1) dX7_weighByAgreements_109 rfl (fun _ M3 _ => ?_)
      exact zz_vret dX7_weighByAgreements_112
    · refine zz_aload_n (npc := 14) 0 rfl rfl dX7_weighByAgreements_13 rfl ?_
      refine zz_getR (npc := 17) (i := 4) (C0 := RX7) (T := TX7) (N := 10) (by decide) (by rfl) rfl (by decide) iX7_weighByAgreements_7 (List.mem_of_getElem? (i := 3) rfl) rfl dX7_weighByAgreements_14 rfl ?_
      refine zz_iload_n (npc := 18) 1 rfl rfl dX7_weighByAgreements_17 rfl ?_
      refine zz_iload_n (npc := 19) 1 rfl rfl dX7_weighByAgreements_18 rfl ?_
      refine zz_aload_n (npc := 20) 0 rfl rfl dX7_weighByAgreements_19 rfl ?_
      refine zz_getR (npc := 23) (i := 0) (C0 := RX7) (T := TX7) (N := 10) (by decide) (by rfl) rfl (by decide) iX7_weighByAgreements_7 (List.mem_of_getElem? (i := 1) rfl) rfl dX7_weighByAgreements_20 rfl ?_
      refine zz_getR (npc := 26) (i := 3) (C0 := RX1) (T := TX1) (N := 12) (by decide) (by rfl) rfl (by decide) iX7_weighByAgreements_1 (List.mem_of_getElem? (i := 4) rfl) rfl dX7_weighByAgreements_23 rfl ?_
      refine zz_iload_n (npc := 27) 1 rfl rfl dX7_weighByAgreements_26 rfl ?_
      refine zz_iald (npc := 28) (by decide) (by rfl) dX7_weighByAgreements_27 rfl ?_
      refine zz_aload_n (npc := 29) 0 rfl rfl dX7_weighByAgreements_28 rfl ?_
      refine zz_getR (npc := 32) (i := 0) (C0 := RX7) (T := TX7) (N := 10) (by decide) (by rfl) rfl (by decide) iX7_weighByAgreements_7 (List.mem_of_getElem? (i := 1) rfl) rfl dX7_weighByAgreements_29 rfl ?_
      refine zz_callVi (npc := 35) (n := 0) (As := []) (by decide) (by rfl) rfl gX7_weighByAgreements_X1_hoursLeft rfl rfl rfl (by decide +kernel) ⟨Nat.le_of_ble_eq_true rfl, Nat.le_of_ble_eq_true rfl⟩ rfl rfl (Nat.le_of_ble_eq_true rfl) (mtX1_hoursLeft E l 1 ld_c1  M) dX7_weighByAgreements_32 rfl (fun r5 M4 _ => ?_)
      refine zz_iand (npc := 36) dX7_weighByAgreements_35 rfl ?_
      refine zz_callSi (npc := 39) (n := 1) (As := [.int ((M 5 (ix y1)) &&& r5)]) gX7_weighByAgreements_J6_bitCount_0f7a4 rfl rfl rfl (by decide +kernel) ⟨Nat.le_of_ble_eq_true rfl, Nat.le_of_ble_eq_true rfl⟩ rfl rfl (Nat.le_of_ble_eq_true rfl) (mtJ6_bitCount_0f7a4 E l  ((M 5 (ix y1)) &&& r5) M4) dX7_weighByAgreements_36 rfl (fun r7 M6 _ => ?_)
      refine zz_callVv (npc := 42) (n := 3) (As := [.int y1, .int y1, .int r7]) (by decide) (by rfl) rfl gX7_weighByAgreements_X2_value rfl rfl rfl (by decide +kernel) ⟨Nat.le_of_ble_eq_true rfl, Nat.le_of_ble_eq_true rfl⟩ rfl rfl (Nat.le_of_ble_eq_true rfl) (mtX2_value E l  y1 y1 r7 M6) dX7_weighByAgreements_39 rfl (fun _ M8 _ => ?_)
      refine zz_iload_n (npc := 43) 1 rfl rfl dX7_weighByAgreements_42 rfl ?_
      refine zz_iconst (npc := 44) 1 (by decide) dX7_weighByAgreements_43 rfl ?_
      refine zz_iadd (npc := 45) dX7_weighByAgreements_44 rfl ?_
      refine zz_istore_nB (npc := 46) (lv1 := fun v9 => [(2, .int v9), (0, .ref (eA E 0)), (1, .int y1)]) rfl dX7_weighByAgreements_45 rfl (by decide) (fun _ => rfl) (fun v9 => ?_)
      refine zz_sub (npc := 0) (lv1 := [(0, .ref (eA E 0)), (1, .int y1), (2, .int v9)]) [1, 2, 0] rfl ?_
      exact zX7_weighByAgreements_L46 E l (fX7_weighByAgreements_L2  n) ih fu y1 v9 M8
noncomputable def fX7_weighByAgreements   (M : Mem) : Option (Unit × Mem) := (fX7_weighByAgreements_L2  fu 0 M)
set_option maxHeartbeats 4000000 in
set_option maxRecDepth 100000 in
theorem mtX7_weighByAgreements (E : EV) (l : Launch)    (M : Mem) : CT E l yX7_weighByAgreements wsX7_weighByAgreements rmX7_weighByAgreements vV [.ref (eA E 0)] (fX7_weighByAgreements  M) M := by
  refine ct_of (cc := cX7_weighByAgreements) (nL := 3) (ret := none) (by decide +kernel) rfl (Nat.le_of_ble_eq_true rfl) ?_
  show ZZ E l RX7 cX7_weighByAgreements 3 none wsX7_weighByAgreements rmX7_weighByAgreements vV (fX7_weighByAgreements  M) M [(0, .ref (eA E 0))] 0 []
  unfold fX7_weighByAgreements
  refine zz_iconst (npc := 1) 0 (by decide) dX7_weighByAgreements_0 rfl ?_
  refine zz_istore_n (npc := 2) (lv1 := [(1, .int 0), (0, .ref (eA E 0))]) rfl dX7_weighByAgreements_1 rfl (by decide) rfl ?_
  refine zz_sub (npc := 0) (lv1 := [(0, .ref (eA E 0)), (1, .int 0)]) [1, 0] rfl ?_
  exact zX7_weighByAgreements_L2 E l  fu 0 M
abbrev rmX7_pairs : Room := { frames := 6, cells := 0, slots := 0, locals := 138 }
theorem iX7_pairs_7 : ∀ w ∈ u_ws RX7 TX7 10, w ∈ wsX7_pairs := fun w h => List.mem_cons_of_mem _ (List.mem_append_left _ (List.mem_append_left _ (List.mem_append_left _ (List.mem_append_right _ h))))
noncomputable def fX7_pairs   (M : Mem) : Option (Int32 × Mem) := (bd (fX7_weighByAgreements M) fun _ M1 => (bd (fX1_everybody 1 M1) fun r3 M2 => (bd (fX2_bestOf r3 M2) fun r5 M4 => (some (r5, M4)))))
set_option maxHeartbeats 4000000 in
set_option maxRecDepth 100000 in
theorem mtX7_pairs (E : EV) (l : Launch)    (M : Mem) : CT E l yX7_pairs wsX7_pairs rmX7_pairs vI [.ref (eA E 0)] (fX7_pairs  M) M := by
  refine ct_of (cc := cX7_pairs) (nL := 1) (ret := (some .int)) (by decide +kernel) rfl (Nat.le_of_ble_eq_true rfl) ?_
  show ZZ E l RX7 cX7_pairs 1 (some .int) wsX7_pairs rmX7_pairs vI (fX7_pairs  M) M [(0, .ref (eA E 0))] 0 []
  unfold fX7_pairs
  refine zz_aload_n (npc := 1) 0 rfl rfl dX7_pairs_0 rfl ?_
  refine zz_callVv (npc := 4) (n := 0) (As := []) (by decide) (by rfl) rfl gX7_pairs_X7_weighByAgreements rfl rfl rfl (by decide +kernel) ⟨Nat.le_of_ble_eq_true rfl, Nat.le_of_ble_eq_true rfl⟩ rfl rfl (Nat.le_of_ble_eq_true rfl) (mtX7_weighByAgreements E l   M) dX7_pairs_1 rfl (fun _ M1 _ => ?_)
  refine zz_aload_n (npc := 5) 0 rfl rfl dX7_pairs_4 rfl ?_
  refine zz_getR (npc := 8) (i := 4) (C0 := RX7) (T := TX7) (N := 10) (by decide) (by rfl) rfl (by decide) iX7_pairs_7 (List.mem_of_getElem? (i := 1) rfl) rfl dX7_pairs_5 rfl ?_
  refine zz_aload_n (npc := 9) 0 rfl rfl dX7_pairs_8 rfl ?_
  refine zz_getR (npc := 12) (i := 0) (C0 := RX7) (T := TX7) (N := 10) (by decide) (by rfl) rfl (by decide) iX7_pairs_7 (List.mem_of_getElem? (i := 2) rfl) rfl dX7_pairs_9 rfl ?_
  refine zz_callVi (npc := 15) (n := 0) (As := []) (by decide) (by rfl) rfl gX7_pairs_X1_everybody rfl rfl rfl (by decide +kernel) ⟨Nat.le_of_ble_eq_true rfl, Nat.le_of_ble_eq_true rfl⟩ rfl rfl (Nat.le_of_ble_eq_true rfl) (mtX1_everybody E l 1 ld_c1  M1) dX7_pairs_12 rfl (fun r3 M2 _ => ?_)
  refine zz_callVi (npc := 18) (n := 1) (As := [.int r3]) (by decide) (by rfl) rfl gX7_pairs_X2_bestOf rfl rfl rfl (by decide +kernel) ⟨Nat.le_of_ble_eq_true rfl, Nat.le_of_ble_eq_true rfl⟩ rfl rfl (Nat.le_of_ble_eq_true rfl) (mtX2_bestOf E l  r3 M2) dX7_pairs_15 rfl (fun r5 M4 _ => ?_)
  exact zz_iret dX7_pairs_18
abbrev rmX7_mate : Room := { frames := 6, cells := 0, slots := 0, locals := 138 }
theorem iX7_mate_7 : ∀ w ∈ u_ws RX7 TX7 10, w ∈ wsX7_mate := fun w h => List.mem_cons_of_mem _ (List.mem_append_left _ (List.mem_append_left _ (List.mem_append_left _ (List.mem_append_right _ h))))
noncomputable def fX7_mate  (x1 : Int32) (M : Mem) : Option (Int32 × Mem) := (bd (fX1_isPerson 1 x1 M) fun r2 M1 => (if r2 = 0 then (bd (fX7_found 0 M1) fun r9 M8 => (some (r9, M8))) else (bd (fX7_weighByAgreements M1) fun _ M3 => (bd (fX1_everybody 1 M3) fun r5 M4 => (bd (fX2_firstMateOf x1 r5 M4) fun r7 M6 => (some (r7, M6)))))))
set_option maxHeartbeats 4000000 in
set_option maxRecDepth 100000 in
theorem mtX7_mate (E : EV) (l : Launch)   (x1 : Int32) (M : Mem) : CT E l yX7_mate wsX7_mate rmX7_mate vI [.ref (eA E 0), .int x1] (fX7_mate x1 M) M := by
  refine ct_of (cc := cX7_mate) (nL := 2) (ret := (some .int)) (by decide +kernel) rfl (Nat.le_of_ble_eq_true rfl) ?_
  show ZZ E l RX7 cX7_mate 2 (some .int) wsX7_mate rmX7_mate vI (fX7_mate x1 M) M [(0, .ref (eA E 0)), (1, .int x1)] 0 []
  unfold fX7_mate
  refine zz_aload_n (npc := 1) 0 rfl rfl dX7_mate_0 rfl ?_
  refine zz_getR (npc := 4) (i := 0) (C0 := RX7) (T := TX7) (N := 10) (by decide) (by rfl) rfl (by decide) iX7_mate_7 (List.mem_of_getElem? (i := 1) rfl) rfl dX7_mate_1 rfl ?_
  refine zz_iload_n (npc := 5) 1 rfl rfl dX7_mate_4 rfl ?_
  refine zz_callVi (npc := 8) (n := 1) (As := [.int x1]) (by decide) (by rfl) rfl gX7_mate_X1_isPerson rfl rfl rfl (by decide +kernel) ⟨Nat.le_of_ble_eq_true rfl, Nat.le_of_ble_eq_true rfl⟩ rfl rfl (Nat.le_of_ble_eq_true rfl) (mtX1_isPerson E l 1 ld_c1 x1 M) dX7_mate_5 rfl (fun r2 M1 _ => ?_)
  refine zz_if_ne (tgt := 17) (npc := 11) dX7_mate_8 (by decide) rfl ?_ ?_
  · refine zz_aload_n (npc := 18) 0 rfl rfl dX7_mate_17 rfl ?_
    refine zz_callVv (npc := 21) (n := 0) (As := []) (by decide) (by rfl) rfl gX7_mate_X7_weighByAgreements rfl rfl rfl (by decide +kernel) ⟨Nat.le_of_ble_eq_true rfl, Nat.le_of_ble_eq_true rfl⟩ rfl rfl (Nat.le_of_ble_eq_true rfl) (mtX7_weighByAgreements E l   M1) dX7_mate_18 rfl (fun _ M3 _ => ?_)
    refine zz_aload_n (npc := 22) 0 rfl rfl dX7_mate_21 rfl ?_
    refine zz_getR (npc := 25) (i := 4) (C0 := RX7) (T := TX7) (N := 10) (by decide) (by rfl) rfl (by decide) iX7_mate_7 (List.mem_of_getElem? (i := 2) rfl) rfl dX7_mate_22 rfl ?_
    refine zz_iload_n (npc := 26) 1 rfl rfl dX7_mate_25 rfl ?_
    refine zz_aload_n (npc := 27) 0 rfl rfl dX7_mate_26 rfl ?_
    refine zz_getR (npc := 30) (i := 0) (C0 := RX7) (T := TX7) (N := 10) (by decide) (by rfl) rfl (by decide) iX7_mate_7 (List.mem_of_getElem? (i := 1) rfl) rfl dX7_mate_27 rfl ?_
    refine zz_callVi (npc := 33) (n := 0) (As := []) (by decide) (by rfl) rfl gX7_mate_X1_everybody rfl rfl rfl (by decide +kernel) ⟨Nat.le_of_ble_eq_true rfl, Nat.le_of_ble_eq_true rfl⟩ rfl rfl (Nat.le_of_ble_eq_true rfl) (mtX1_everybody E l 1 ld_c1  M3) dX7_mate_30 rfl (fun r5 M4 _ => ?_)
    refine zz_callVi (npc := 36) (n := 2) (As := [.int x1, .int r5]) (by decide) (by rfl) rfl gX7_mate_X2_firstMateOf rfl rfl rfl (by decide +kernel) ⟨Nat.le_of_ble_eq_true rfl, Nat.le_of_ble_eq_true rfl⟩ rfl rfl (Nat.le_of_ble_eq_true rfl) (mtX2_firstMateOf E l  x1 r5 M4) dX7_mate_33 rfl (fun r7 M6 _ => ?_)
    exact zz_iret dX7_mate_36
  · refine zz_aload_n (npc := 12) 0 rfl rfl dX7_mate_11 rfl ?_
    refine zz_iconst (npc := 13) 0 (by decide) dX7_mate_12 rfl ?_
    refine zz_callVi (npc := 16) (n := 1) (As := [.int 0]) (by decide) (by rfl) rfl gX7_mate_X7_found rfl rfl rfl (by decide +kernel) ⟨Nat.le_of_ble_eq_true rfl, Nat.le_of_ble_eq_true rfl⟩ rfl rfl (Nat.le_of_ble_eq_true rfl) (mtX7_found E l  0 M1) dX7_mate_13 rfl (fun r9 M8 _ => ?_)
    exact zz_iret dX7_mate_16
abbrev rmX7_ways : Room := { frames := 6, cells := 0, slots := 0, locals := 138 }
theorem iX7_ways_7 : ∀ w ∈ u_ws RX7 TX7 10, w ∈ wsX7_ways := fun w h => List.mem_cons_of_mem _ (List.mem_append_left _ (List.mem_append_left _ (List.mem_append_left _ (List.mem_append_right _ h))))
noncomputable def fX7_ways   (M : Mem) : Option (Int32 × Mem) := (bd (fX7_weighByAgreements M) fun _ M1 => (bd (fX1_everybody 1 M1) fun r3 M2 => (bd (fX2_waysOf r3 M2) fun r5 M4 => (some (r5, M4)))))
set_option maxHeartbeats 4000000 in
set_option maxRecDepth 100000 in
theorem mtX7_ways (E : EV) (l : Launch)    (M : Mem) : CT E l yX7_ways wsX7_ways rmX7_ways vI [.ref (eA E 0)] (fX7_ways  M) M := by
  refine ct_of (cc := cX7_ways) (nL := 1) (ret := (some .int)) (by decide +kernel) rfl (Nat.le_of_ble_eq_true rfl) ?_
  show ZZ E l RX7 cX7_ways 1 (some .int) wsX7_ways rmX7_ways vI (fX7_ways  M) M [(0, .ref (eA E 0))] 0 []
  unfold fX7_ways
  refine zz_aload_n (npc := 1) 0 rfl rfl dX7_ways_0 rfl ?_
  refine zz_callVv (npc := 4) (n := 0) (As := []) (by decide) (by rfl) rfl gX7_ways_X7_weighByAgreements rfl rfl rfl (by decide +kernel) ⟨Nat.le_of_ble_eq_true rfl, Nat.le_of_ble_eq_true rfl⟩ rfl rfl (Nat.le_of_ble_eq_true rfl) (mtX7_weighByAgreements E l   M) dX7_ways_1 rfl (fun _ M1 _ => ?_)
  refine zz_aload_n (npc := 5) 0 rfl rfl dX7_ways_4 rfl ?_
  refine zz_getR (npc := 8) (i := 4) (C0 := RX7) (T := TX7) (N := 10) (by decide) (by rfl) rfl (by decide) iX7_ways_7 (List.mem_of_getElem? (i := 1) rfl) rfl dX7_ways_5 rfl ?_
  refine zz_aload_n (npc := 9) 0 rfl rfl dX7_ways_8 rfl ?_
  refine zz_getR (npc := 12) (i := 0) (C0 := RX7) (T := TX7) (N := 10) (by decide) (by rfl) rfl (by decide) iX7_ways_7 (List.mem_of_getElem? (i := 2) rfl) rfl dX7_ways_9 rfl ?_
  refine zz_callVi (npc := 15) (n := 0) (As := []) (by decide) (by rfl) rfl gX7_ways_X1_everybody rfl rfl rfl (by decide +kernel) ⟨Nat.le_of_ble_eq_true rfl, Nat.le_of_ble_eq_true rfl⟩ rfl rfl (Nat.le_of_ble_eq_true rfl) (mtX1_everybody E l 1 ld_c1  M1) dX7_ways_12 rfl (fun r3 M2 _ => ?_)
  refine zz_callVi (npc := 18) (n := 1) (As := [.int r3]) (by decide) (by rfl) rfl gX7_ways_X2_waysOf rfl rfl rfl (by decide +kernel) ⟨Nat.le_of_ble_eq_true rfl, Nat.le_of_ble_eq_true rfl⟩ rfl rfl (Nat.le_of_ble_eq_true rfl) (mtX2_waysOf E l  r3 M2) dX7_ways_15 rfl (fun r5 M4 _ => ?_)
  exact zz_iret dX7_ways_18
abbrev rmX7_wouldRatherAgree : Room := { frames := 4, cells := 0, slots := 0, locals := 90 }
theorem iX7_wouldRatherAgree_7 : ∀ w ∈ u_ws RX7 TX7 10, w ∈ wsX7_wouldRatherAgree := fun w h => List.mem_cons_of_mem _ (List.mem_append_left _ (List.mem_append_left _ (List.mem_append_left _ (List.mem_append_right _ h))))
noncomputable def fX7_wouldRatherAgree  (x1 : Int32) (x2 : Int32) (M : Mem) : Option (Int32 × Mem) := (bd (fX0_make 1 x1 x2 M) fun _ M1 => (bd (fX0_metOfSide 0 M1) fun r3 M2 => (bd (fX4_metOf x1 M2) fun r5 M4 => (if r3 ≤ r5 then (ck (isb 0) (some (0, M4))) else (bd (fX0_metOfSide 1 M4) fun r7 M6 => (bd (fX4_metOf x2 M6) fun r9 M8 => (if r7 ≤ r9 then (ck (isb 0) (some (0, M8))) else (ck (isb 1) (some (1, M8))))))))))
set_option maxHeartbeats 4000000 in
set_option maxRecDepth 100000 in
theorem mtX7_wouldRatherAgree (E : EV) (l : Launch)   (x1 : Int32) (x2 : Int32) (M : Mem) : CT E l yX7_wouldRatherAgree wsX7_wouldRatherAgree rmX7_wouldRatherAgree vI [.ref (eA E 0), .int x1, .int x2] (fX7_wouldRatherAgree x1 x2 M) M := by
  refine ct_of (cc := cX7_wouldRatherAgree) (nL := 3) (ret := (some .boolean)) (by decide +kernel) rfl (Nat.le_of_ble_eq_true rfl) ?_
  show ZZ E l RX7 cX7_wouldRatherAgree 3 (some .boolean) wsX7_wouldRatherAgree rmX7_wouldRatherAgree vI (fX7_wouldRatherAgree x1 x2 M) M [(0, .ref (eA E 0)), (1, .int x1), (2, .int x2)] 0 []
  unfold fX7_wouldRatherAgree
  refine zz_aload_n (npc := 1) 0 rfl rfl dX7_wouldRatherAgree_0 rfl ?_
  refine zz_getR (npc := 4) (i := 3) (C0 := RX7) (T := TX7) (N := 10) (by decide) (by rfl) rfl (by decide) iX7_wouldRatherAgree_7 (List.mem_of_getElem? (i := 1) rfl) rfl dX7_wouldRatherAgree_1 rfl ?_
  refine zz_aload_n (npc := 5) 0 rfl rfl dX7_wouldRatherAgree_4 rfl ?_
  refine zz_getR (npc := 8) (i := 0) (C0 := RX7) (T := TX7) (N := 10) (by decide) (by rfl) rfl (by decide) iX7_wouldRatherAgree_7 (List.mem_of_getElem? (i := 2) rfl) rfl dX7_wouldRatherAgree_5 rfl ?_
  refine zz_iload_n (npc := 9) 1 rfl rfl dX7_wouldRatherAgree_8 rfl ?_
  refine zz_iload_n (npc := 10) 2 rfl rfl dX7_wouldRatherAgree_9 rfl ?_
  refine zz_callVv (npc := 13) (n := 3) (As := [.ref (eA E 1), .int x1, .int x2]) (by decide) (by rfl) rfl gX7_wouldRatherAgree_X0_make rfl rfl rfl (by decide +kernel) ⟨Nat.le_of_ble_eq_true rfl, Nat.le_of_ble_eq_true rfl⟩ rfl rfl (Nat.le_of_ble_eq_true rfl) (mtX0_make E l 1 ld_c1 x1 x2 M) dX7_wouldRatherAgree_10 rfl (fun _ M1 _ => ?_)
  refine zz_aload_n (npc := 14) 0 rfl rfl dX7_wouldRatherAgree_13 rfl ?_
  refine zz_getR (npc := 17) (i := 3) (C0 := RX7) (T := TX7) (N := 10) (by decide) (by rfl) rfl (by decide) iX7_wouldRatherAgree_7 (List.mem_of_getElem? (i := 1) rfl) rfl dX7_wouldRatherAgree_14 rfl ?_
  refine zz_iconst (npc := 18) 0 (by decide) dX7_wouldRatherAgree_17 rfl ?_
  refine zz_callVi (npc := 21) (n := 1) (As := [.int 0]) (by decide) (by rfl) rfl gX7_wouldRatherAgree_X0_metOfSide rfl rfl rfl (by decide +kernel) ⟨Nat.le_of_ble_eq_true rfl, Nat.le_of_ble_eq_true rfl⟩ rfl rfl (Nat.le_of_ble_eq_true rfl) (mtX0_metOfSide E l  0 M1) dX7_wouldRatherAgree_18 rfl (fun r3 M2 _ => ?_)
  refine zz_aload_n (npc := 22) 0 rfl rfl dX7_wouldRatherAgree_21 rfl ?_
  refine zz_getR (npc := 25) (i := 2) (C0 := RX7) (T := TX7) (N := 10) (by decide) (by rfl) rfl (by decide) iX7_wouldRatherAgree_7 (List.mem_of_getElem? (i := 3) rfl) rfl dX7_wouldRatherAgree_22 rfl ?_
  refine zz_iload_n (npc := 26) 1 rfl rfl dX7_wouldRatherAgree_25 rfl ?_
  refine zz_callVi (npc := 29) (n := 1) (As := [.int x1]) (by decide) (by rfl) rfl gX7_wouldRatherAgree_X4_metOf rfl rfl rfl (by decide +kernel) ⟨Nat.le_of_ble_eq_true rfl, Nat.le_of_ble_eq_true rfl⟩ rfl rfl (Nat.le_of_ble_eq_true rfl) (mtX4_metOf E l  x1 M2) dX7_wouldRatherAgree_26 rfl (fun r5 M4 _ => ?_)
  refine zz_icmp_le (tgt := 55) (npc := 32) dX7_wouldRatherAgree_29 (by decide) rfl ?_ ?_
  · refine zz_iconst (npc := 56) 0 (by decide) dX7_wouldRatherAgree_55 rfl ?_
    exact zz_zret dX7_wouldRatherAgree_56
  · refine zz_aload_n (npc := 33) 0 rfl rfl dX7_wouldRatherAgree_32 rfl ?_
    refine zz_getR (npc := 36) (i := 3) (C0 := RX7) (T := TX7) (N := 10) (by decide) (by rfl) rfl (by decide) iX7_wouldRatherAgree_7 (List.mem_of_getElem? (i := 1) rfl) rfl dX7_wouldRatherAgree_33 rfl ?_
    refine zz_iconst (npc := 37) 1 (by decide) dX7_wouldRatherAgree_36 rfl ?_
    refine zz_callVi (npc := 40) (n := 1) (As := [.int 1]) (by decide) (by rfl) rfl gX7_wouldRatherAgree_X0_metOfSide rfl rfl rfl (by decide +kernel) ⟨Nat.le_of_ble_eq_true rfl, Nat.le_of_ble_eq_true rfl⟩ rfl rfl (Nat.le_of_ble_eq_true rfl) (mtX0_metOfSide E l  1 M4) dX7_wouldRatherAgree_37 rfl (fun r7 M6 _ => ?_)
    refine zz_aload_n (npc := 41) 0 rfl rfl dX7_wouldRatherAgree_40 rfl ?_
    refine zz_getR (npc := 44) (i := 2) (C0 := RX7) (T := TX7) (N := 10) (by decide) (by rfl) rfl (by decide) iX7_wouldRatherAgree_7 (List.mem_of_getElem? (i := 3) rfl) rfl dX7_wouldRatherAgree_41 rfl ?_
    refine zz_iload_n (npc := 45) 2 rfl rfl dX7_wouldRatherAgree_44 rfl ?_
    refine zz_callVi (npc := 48) (n := 1) (As := [.int x2]) (by decide) (by rfl) rfl gX7_wouldRatherAgree_X4_metOf rfl rfl rfl (by decide +kernel) ⟨Nat.le_of_ble_eq_true rfl, Nat.le_of_ble_eq_true rfl⟩ rfl rfl (Nat.le_of_ble_eq_true rfl) (mtX4_metOf E l  x2 M6) dX7_wouldRatherAgree_45 rfl (fun r9 M8 _ => ?_)
    refine zz_icmp_le (tgt := 55) (npc := 51) dX7_wouldRatherAgree_48 (by decide) rfl ?_ ?_
    · refine zz_iconst (npc := 56) 0 (by decide) dX7_wouldRatherAgree_55 rfl ?_
      exact zz_zret dX7_wouldRatherAgree_56
    · refine zz_iconst (npc := 52) 1 (by decide) dX7_wouldRatherAgree_51 rfl ?_
      refine zz_goto (npc := 0) (tgt := 56) dX7_wouldRatherAgree_52 (by decide) ?_
      exact zz_zret dX7_wouldRatherAgree_56
abbrev rmX7_broken : Room := { frames := 5, cells := 0, slots := 0, locals := 163 }
theorem iX7_broken_1 : ∀ w ∈ u_ws RX1 TX1 12, w ∈ wsX7_broken := fun w h => List.mem_cons_of_mem _ (List.mem_append_left _ (List.mem_append_left _ (List.mem_append_right _ h)))
theorem iX7_broken_7 : ∀ w ∈ u_ws RX7 TX7 10, w ∈ wsX7_broken := fun w h => List.mem_cons_of_mem _ (List.mem_append_left _ (List.mem_append_left _ (List.mem_append_left _ (List.mem_append_right _ h))))
noncomputable def fX7_broken_L68  (k28 : Int32 → Int32 → Mem → Option (Int32 × Mem)) (y1 : Int32) (y2 : Int32) (M : Mem) : Option (Int32 × Mem) := (bv (y2 + 1) fun v8 => (k28 y1 v8 M))
set_option maxHeartbeats 4000000 in
set_option maxRecDepth 100000 in
theorem zX7_broken_L68 (E : EV) (l : Launch)   (k28 : Int32 → Int32 → Mem → Option (Int32 × Mem)) (hk28 : ∀ (y1_ : Int32) (y2_ : Int32) (M_ : Mem), ZZ E l RX7 cX7_broken 3 (some .int) wsX7_broken rmX7_broken vI (k28 y1_ y2_ M_) M_ [(0, .ref (eA E 0)), (1, .int y1_), (2, .int y2_)] 28 []) : ∀ (y1 : Int32) (y2 : Int32) (M : Mem), ZZ E l RX7 cX7_broken 3 (some .int) wsX7_broken rmX7_broken vI (fX7_broken_L68 k28 y1 y2 M) M [(0, .ref (eA E 0)), (1, .int y1), (2, .int y2)] 68 [] := by
  intro y1 y2 M
  unfold fX7_broken_L68
  refine zz_iincB (npc := 71) (y2 + 1) (lv1 := fun v8 => [(2, .int v8), (0, .ref (eA E 0)), (1, .int y1)]) dX7_broken_68 rfl 2 rfl rfl (by decide) (fun _ => rfl) (fun v8 => ?_)
  refine zz_goto (npc := 0) (tgt := 28) dX7_broken_71 (by decide) ?_
  refine zz_sub (npc := 0) (lv1 := [(0, .ref (eA E 0)), (1, .int y1), (2, .int v8)]) [1, 2, 0] rfl ?_
  exact hk28 y1 v8 M
noncomputable def fX7_broken_L28  (k13 : Int32 → Mem → Option (Int32 × Mem)) : Nat → Int32 → Int32 → Mem → Option (Int32 × Mem)
  | 0, _, _, _ => none
  | n + 1, y1, y2, M => (if (M 1 6) ≤ y2 then (bv (y1 + 1) fun v5 => (k13 v5 M)) else (ck (inb y1 8) (if (M 6 (ix y1)) = y2 then (fX7_broken_L68 (fX7_broken_L28 k13 n) y1 y2 M) else (bd (fX7_wouldRatherAgree y1 y2 M) fun r7 M6 => (if r7 = 0 then (fX7_broken_L68 (fX7_broken_L28 k13 n) y1 y2 M6) else (some ((10 * y1) + y2, M6)))))))
set_option maxHeartbeats 4000000 in
set_option maxRecDepth 100000 in
theorem zX7_broken_L28 (E : EV) (l : Launch)   (k13 : Int32 → Mem → Option (Int32 × Mem)) (hk13 : ∀ (y1_ : Int32) (M_ : Mem), ZZ E l RX7 cX7_broken 3 (some .int) wsX7_broken rmX7_broken vI (k13 y1_ M_) M_ [(0, .ref (eA E 0)), (1, .int y1_)] 13 []) : ∀ (n : Nat) (y1 : Int32) (y2 : Int32) (M : Mem), ZZ E l RX7 cX7_broken 3 (some .int) wsX7_broken rmX7_broken vI (fX7_broken_L28 k13 n y1 y2 M) M [(0, .ref (eA E 0)), (1, .int y1), (2, .int y2)] 28 [] := by
  intro n
  induction n with
  | zero => intros; exact zz_none
  | succ n ih =>
    intro y1 y2 M
    rw [fX7_broken_L28]
    refine zz_iload_n (npc := 29) 2 rfl rfl dX7_broken_28 rfl ?_
    refine zz_aload_n (npc := 30) 0 rfl rfl dX7_broken_29 rfl ?_
    refine zz_getR (npc := 33) (i := 0) (C0 := RX7) (T := TX7) (N := 10) (by decide) (by rfl) rfl (by decide) iX7_broken_7 (List.mem_of_getElem? (i := 2) rfl) rfl dX7_broken_30 rfl ?_
    refine zz_getI (npc := 36) (i := 6) (C0 := RX1) (T := TX1) (N := 12) (by decide) (by rfl) rfl (by decide) iX7_broken_1 (List.mem_of_getElem? (i := 3) rfl) rfl dX7_broken_33 rfl ?_
    refine zz_icmp_ge (tgt := 74) (npc := 39) dX7_broken_36 (by decide) rfl ?_ ?_
    · refine zz_iincB (npc := 77) (y1 + 1) (lv1 := fun v5 => [(1, .int v5), (0, .ref (eA E 0)), (2, .int y2)]) dX7_broken_74 rfl 1 rfl rfl (by decide) (fun _ => rfl) (fun v5 => ?_)
      refine zz_goto (npc := 0) (tgt := 13) dX7_broken_77 (by decide) ?_
      refine zz_sub (npc := 0) (lv1 := [(0, .ref (eA E 0)), (1, .int v5)]) [1, 0] rfl ?_
      exact hk13 v5 M
    · refine zz_aload_n (npc := 40) 0 rfl rfl dX7_broken_39 rfl ?_
      refine zz_getR (npc := 43) (i := 0) (C0 := RX7) (T := TX7) (N := 10) (by decide) (by rfl) rfl (by decide) iX7_broken_7 (List.mem_of_getElem? (i := 2) rfl) rfl dX7_broken_40 rfl ?_
      refine zz_getR (npc := 46) (i := 4) (C0 := RX1) (T := TX1) (N := 12) (by decide) (by rfl) rfl (by decide) iX7_broken_1 (List.mem_of_getElem? (i := 4) rfl) rfl dX7_broken_43 rfl ?_
      refine zz_iload_n (npc := 47) 1 rfl rfl dX7_broken_46 rfl ?_
      refine zz_iald (npc := 48) (by decide) (by rfl) dX7_broken_47 rfl ?_
      refine zz_iload_n (npc := 49) 2 rfl rfl dX7_broken_48 rfl ?_
      refine zz_icmp_eq (tgt := 68) (npc := 52) dX7_broken_49 (by decide) rfl ?_ ?_
      · exact zX7_broken_L68 E l (fX7_broken_L28 k13 n) ih y1 y2 M
      · refine zz_aload_n (npc := 53) 0 rfl rfl dX7_broken_52 rfl ?_
        refine zz_iload_n (npc := 54) 1 rfl rfl dX7_broken_53 rfl ?_
        refine zz_iload_n (npc := 55) 2 rfl rfl dX7_broken_54 rfl ?_
        refine zz_callVi (npc := 58) (n := 2) (As := [.int y1, .int y2]) (by decide) (by rfl) rfl gX7_broken_X7_wouldRatherAgree rfl rfl rfl (by decide +kernel) ⟨Nat.le_of_ble_eq_true rfl, Nat.le_of_ble_eq_true rfl⟩ rfl rfl (Nat.le_of_ble_eq_true rfl) (mtX7_wouldRatherAgree E l  y1 y2 M) dX7_broken_55 rfl (fun r7 M6 _ => ?_)
        refine zz_if_eq (tgt := 68) (npc := 61) dX7_broken_58 (by decide) rfl ?_ ?_
        · exact zX7_broken_L68 E l (fX7_broken_L28 k13 n) ih y1 y2 M6
        · refine zz_bipush (npc := 63) 10 (by decide) dX7_broken_61 rfl ?_
          refine zz_iload_n (npc := 64) 1 rfl rfl dX7_broken_63 rfl ?_
          refine zz_imul (npc := 65) dX7_broken_64 rfl ?_
          refine zz_iload_n (npc := 66) 2 rfl rfl dX7_broken_65 rfl ?_
          refine zz_iadd (npc := 67) dX7_broken_66 rfl ?_
          exact zz_iret dX7_broken_67
noncomputable def fX7_broken_L13   : Nat → Int32 → Mem → Option (Int32 × Mem)
  | 0, _, _ => none
  | n + 1, y1, M => (if (M 1 6) ≤ y1 then (bd (fX7_found 3 M) fun r3 M2 => (some (r3, M2))) else (bv (y1 + 1) fun v4 => (fX7_broken_L28 (fX7_broken_L13  n) fu y1 v4 M)))
set_option maxHeartbeats 4000000 in
set_option maxRecDepth 100000 in
theorem zX7_broken_L13 (E : EV) (l : Launch)     : ∀ (n : Nat) (y1 : Int32) (M : Mem), ZZ E l RX7 cX7_broken 3 (some .int) wsX7_broken rmX7_broken vI (fX7_broken_L13 n y1 M) M [(0, .ref (eA E 0)), (1, .int y1)] 13 [] := by
  intro n
  induction n with
  | zero => intros; exact zz_none
  | succ n ih =>
    intro y1 M
    rw [fX7_broken_L13]
    refine zz_iload_n (npc := 14) 1 rfl rfl dX7_broken_13 rfl ?_
    refine zz_aload_n (npc := 15) 0 rfl rfl dX7_broken_14 rfl ?_
    refine zz_getR (npc := 18) (i := 0) (C0 := RX7) (T := TX7) (N := 10) (by decide) (by rfl) rfl (by decide) iX7_broken_7 (List.mem_of_getElem? (i := 2) rfl) rfl dX7_broken_15 rfl ?_
    refine zz_getI (npc := 21) (i := 6) (C0 := RX1) (T := TX1) (N := 12) (by decide) (by rfl) rfl (by decide) iX7_broken_1 (List.mem_of_getElem? (i := 3) rfl) rfl dX7_broken_18 rfl ?_
    refine zz_icmp_ge (tgt := 80) (npc := 24) dX7_broken_21 (by decide) rfl ?_ ?_
    · refine zz_aload_n (npc := 81) 0 rfl rfl dX7_broken_80 rfl ?_
      refine zz_iconst (npc := 82) 3 (by decide) dX7_broken_81 rfl ?_
      refine zz_callVi (npc := 85) (n := 1) (As := [.int 3]) (by decide) (by rfl) rfl gX7_broken_X7_found rfl rfl rfl (by decide +kernel) ⟨Nat.le_of_ble_eq_true rfl, Nat.le_of_ble_eq_true rfl⟩ rfl rfl (Nat.le_of_ble_eq_true rfl) (mtX7_found E l  3 M) dX7_broken_82 rfl (fun r3 M2 _ => ?_)
      exact zz_iret dX7_broken_85
    · refine zz_iload_n (npc := 25) 1 rfl rfl dX7_broken_24 rfl ?_
      refine zz_iconst (npc := 26) 1 (by decide) dX7_broken_25 rfl ?_
      refine zz_iadd (npc := 27) dX7_broken_26 rfl ?_
      refine zz_istore_nB (npc := 28) (lv1 := fun v4 => [(2, .int v4), (0, .ref (eA E 0)), (1, .int y1)]) rfl dX7_broken_27 rfl (by decide) (fun _ => rfl) (fun v4 => ?_)
      refine zz_sub (npc := 0) (lv1 := [(0, .ref (eA E 0)), (1, .int y1), (2, .int v4)]) [1, 2, 0] rfl ?_
      exact zX7_broken_L28 E l (fX7_broken_L13  n) ih fu y1 v4 M
noncomputable def fX7_broken   (M : Mem) : Option (Int32 × Mem) := (bd (fX4_see 1 M) fun _ M1 => (fX7_broken_L13  fu 0 M1))
set_option maxHeartbeats 4000000 in
set_option maxRecDepth 100000 in
theorem mtX7_broken (E : EV) (l : Launch)    (M : Mem) : CT E l yX7_broken wsX7_broken rmX7_broken vI [.ref (eA E 0)] (fX7_broken  M) M := by
  refine ct_of (cc := cX7_broken) (nL := 3) (ret := (some .int)) (by decide +kernel) rfl (Nat.le_of_ble_eq_true rfl) ?_
  show ZZ E l RX7 cX7_broken 3 (some .int) wsX7_broken rmX7_broken vI (fX7_broken  M) M [(0, .ref (eA E 0))] 0 []
  unfold fX7_broken
  refine zz_aload_n (npc := 1) 0 rfl rfl dX7_broken_0 rfl ?_
  refine zz_getR (npc := 4) (i := 2) (C0 := RX7) (T := TX7) (N := 10) (by decide) (by rfl) rfl (by decide) iX7_broken_7 (List.mem_of_getElem? (i := 1) rfl) rfl dX7_broken_1 rfl ?_
  refine zz_aload_n (npc := 5) 0 rfl rfl dX7_broken_4 rfl ?_
  refine zz_getR (npc := 8) (i := 0) (C0 := RX7) (T := TX7) (N := 10) (by decide) (by rfl) rfl (by decide) iX7_broken_7 (List.mem_of_getElem? (i := 2) rfl) rfl dX7_broken_5 rfl ?_
  refine zz_callVv (npc := 11) (n := 1) (As := [.ref (eA E 1)]) (by decide) (by rfl) rfl gX7_broken_X4_see rfl rfl rfl (by decide +kernel) ⟨Nat.le_of_ble_eq_true rfl, Nat.le_of_ble_eq_true rfl⟩ rfl rfl (Nat.le_of_ble_eq_true rfl) (mtX4_see E l 1 ld_c1  M) dX7_broken_8 rfl (fun _ M1 _ => ?_)
  refine zz_iconst (npc := 12) 0 (by decide) dX7_broken_11 rfl ?_
  refine zz_istore_n (npc := 13) (lv1 := [(1, .int 0), (0, .ref (eA E 0))]) rfl dX7_broken_12 rfl (by decide) rfl ?_
  refine zz_sub (npc := 0) (lv1 := [(0, .ref (eA E 0)), (1, .int 0)]) [1, 0] rfl ?_
  exact zX7_broken_L13 E l  fu 0 M1
abbrev rmX7_isSheet : Room := { frames := 1, cells := 0, slots := 0, locals := 21 }
noncomputable def fX7_isSheet  (x1 : Int32) (M : Mem) : Option (Int32 × Mem) := (bd (fX7_isWithin x1 3 M) fun r2 M1 => (ck (isb r2) (some (r2, M1))))
set_option maxHeartbeats 4000000 in
set_option maxRecDepth 100000 in
theorem mtX7_isSheet (E : EV) (l : Launch)   (x1 : Int32) (M : Mem) : CT E l yX7_isSheet wsX7_isSheet rmX7_isSheet vI [.int x1] (fX7_isSheet x1 M) M := by
  refine ct_of (cc := cX7_isSheet) (nL := 1) (ret := (some .boolean)) (by decide +kernel) rfl (Nat.le_of_ble_eq_true rfl) ?_
  show ZZ E l RX7 cX7_isSheet 1 (some .boolean) wsX7_isSheet rmX7_isSheet vI (fX7_isSheet x1 M) M [(0, .int x1)] 0 []
  unfold fX7_isSheet
  refine zz_iload_n (npc := 1) 0 rfl rfl dX7_isSheet_0 rfl ?_
  refine zz_iconst (npc := 2) 3 (by decide) dX7_isSheet_1 rfl ?_
  refine zz_callSi (npc := 5) (n := 2) (As := [.int x1, .int 3]) gX7_isSheet_X7_isWithin rfl rfl rfl (by decide +kernel) ⟨Nat.le_of_ble_eq_true rfl, Nat.le_of_ble_eq_true rfl⟩ rfl rfl (Nat.le_of_ble_eq_true rfl) (mtX7_isWithin E l  x1 3 M) dX7_isSheet_2 rfl (fun r2 M1 _ => ?_)
  exact zz_zret dX7_isSheet_5
abbrev rmX7_lackOf : Room := { frames := 2, cells := 0, slots := 0, locals := 41 }
theorem iX7_lackOf_7 : ∀ w ∈ u_ws RX7 TX7 10, w ∈ wsX7_lackOf := fun w h => List.mem_cons_of_mem _ (List.mem_append_left _ (List.mem_append_right _ h))
noncomputable def fX7_lackOf  (x1 : Int32) (M : Mem) : Option (Int32 × Mem) := (bd (fX7_isSheet x1 M) fun r2 M1 => (if r2 = 0 then (some (0, M1)) else (ck (inb x1 4) (bd (fX5_isMissing (48 + 2 * ix x1) M1) fun r4 M3 => (if r4 = 0 then (some ((-1), M3)) else (some (5, M3)))))))
set_option maxHeartbeats 4000000 in
set_option maxRecDepth 100000 in
theorem mtX7_lackOf (E : EV) (l : Launch)   (x1 : Int32) (M : Mem) : CT E l yX7_lackOf wsX7_lackOf rmX7_lackOf vI [.ref (eA E 0), .int x1] (fX7_lackOf x1 M) M := by
  refine ct_of (cc := cX7_lackOf) (nL := 2) (ret := (some .int)) (by decide +kernel) rfl (Nat.le_of_ble_eq_true rfl) ?_
  show ZZ E l RX7 cX7_lackOf 2 (some .int) wsX7_lackOf rmX7_lackOf vI (fX7_lackOf x1 M) M [(0, .ref (eA E 0)), (1, .int x1)] 0 []
  unfold fX7_lackOf
  refine zz_iload_n (npc := 1) 1 rfl rfl dX7_lackOf_0 rfl ?_
  refine zz_callSi (npc := 4) (n := 1) (As := [.int x1]) gX7_lackOf_X7_isSheet rfl rfl rfl (by decide +kernel) ⟨Nat.le_of_ble_eq_true rfl, Nat.le_of_ble_eq_true rfl⟩ rfl rfl (Nat.le_of_ble_eq_true rfl) (mtX7_isSheet E l  x1 M) dX7_lackOf_1 rfl (fun r2 M1 _ => ?_)
  refine zz_if_ne (tgt := 9) (npc := 7) dX7_lackOf_4 (by decide) rfl ?_ ?_
  · refine zz_aload_n (npc := 10) 0 rfl rfl dX7_lackOf_9 rfl ?_
    refine zz_getR (npc := 13) (i := 7) (C0 := RX7) (T := TX7) (N := 10) (by decide) (by rfl) rfl (by decide) iX7_lackOf_7 (List.mem_of_getElem? (i := 1) rfl) rfl dX7_lackOf_10 rfl ?_
    refine zz_iload_n (npc := 14) 1 rfl rfl dX7_lackOf_13 rfl ?_
    refine zz_aaldS (npc := 15) (by decide) (by rfl) dX7_lackOf_14 rfl (fun hs14 => ?_)
    refine zz_callVi (npc := 18) (n := 0) (As := []) (sh_lt0 (sh_ix hs14)) (sh_o (sh_ix hs14)) rfl gX7_lackOf_X5_isMissing rfl rfl rfl (by decide +kernel) ⟨Nat.le_of_ble_eq_true rfl, Nat.le_of_ble_eq_true rfl⟩ rfl rfl (Nat.le_of_ble_eq_true rfl) (mtX5_isMissing E l (48 + 2 * ix x1) (sh_ix hs14)  M1) dX7_lackOf_15 rfl (fun r4 M3 _ => ?_)
    refine zz_if_eq (tgt := 25) (npc := 21) dX7_lackOf_18 (by decide) rfl ?_ ?_
    · refine zz_iconst (npc := 26) (-1) (by decide) dX7_lackOf_25 rfl ?_
      exact zz_iret dX7_lackOf_26
    · refine zz_iconst (npc := 22) 5 (by decide) dX7_lackOf_21 rfl ?_
      refine zz_goto (npc := 0) (tgt := 26) dX7_lackOf_22 (by decide) ?_
      exact zz_iret dX7_lackOf_26
  · refine zz_iconst (npc := 8) 0 (by decide) dX7_lackOf_7 rfl ?_
    exact zz_iret dX7_lackOf_8
abbrev rmX7_weighByShade : Room := { frames := 5, cells := 0, slots := 0, locals := 142 }
theorem iX7_weighByShade_1 : ∀ w ∈ u_ws RX1 TX1 12, w ∈ wsX7_weighByShade := fun w h => List.mem_cons_of_mem _ (List.mem_append_left _ (List.mem_append_left _ (List.mem_append_left _ (List.mem_append_right _ h))))
theorem iX7_weighByShade_4 : ∀ w ∈ u_ws RX4 TX4 4, w ∈ wsX7_weighByShade := fun w h => List.mem_cons_of_mem _ (List.mem_append_left _ (List.mem_append_left _ (List.mem_append_right _ h)))
theorem iX7_weighByShade_7 : ∀ w ∈ u_ws RX7 TX7 10, w ∈ wsX7_weighByShade := fun w h => List.mem_cons_of_mem _ (List.mem_append_left _ (List.mem_append_left _ (List.mem_append_left _ (List.mem_append_left _ (List.mem_append_right _ h)))))
noncomputable def fX7_weighByShade_L128 (d1 : Nat) (k41 : Int32 → Int32 → Mem → Option (Int32 × Mem)) (y2 : Int32) (y3 : Int32) (w0 : Int32) (w1 : Int32) (w2 : Int32) (M : Mem) : Option (Int32 × Mem) := (bd (fX2_value w2 w1 w0 M) fun _ M17 => (bv (y3 + 1) fun v18 => (k41 y2 v18 M17)))
set_option maxHeartbeats 4000000 in
set_option maxRecDepth 100000 in
theorem zX7_weighByShade_L128 (E : EV) (l : Launch) (d1 : Nat) (hd1 : isSh d1) (k41 : Int32 → Int32 → Mem → Option (Int32 × Mem)) (hk41 : ∀ (y2_ : Int32) (y3_ : Int32) (M_ : Mem), ZZ E l RX7 cX7_weighByShade 4 (some .boolean) wsX7_weighByShade rmX7_weighByShade vI (k41 y2_ y3_ M_) M_ [(0, .ref (eA E 0)), (1, .ref (eA E d1)), (2, .int y2_), (3, .int y3_)] 41 []) : ∀ (y2 : Int32) (y3 : Int32) (w0 : Int32) (w1 : Int32) (w2 : Int32) (M : Mem), ZZ E l RX7 cX7_weighByShade 4 (some .boolean) wsX7_weighByShade rmX7_weighByShade vI (fX7_weighByShade_L128 d1 k41 y2 y3 w0 w1 w2 M) M [(0, .ref (eA E 0)), (1, .ref (eA E d1)), (2, .int y2), (3, .int y3)] 128 [.int w0, .int w1, .int w2, .ref (eA E 29)] := by
  intro y2 y3 w0 w1 w2 M
  unfold fX7_weighByShade_L128
  refine zz_callVv (npc := 131) (n := 3) (As := [.int w2, .int w1, .int w0]) (by decide) (by rfl) rfl gX7_weighByShade_X2_value rfl rfl rfl (by decide +kernel) ⟨Nat.le_of_ble_eq_true rfl, Nat.le_of_ble_eq_true rfl⟩ rfl rfl (Nat.le_of_ble_eq_true rfl) (mtX2_value E l  w2 w1 w0 M) dX7_weighByShade_128 rfl (fun _ M17 _ => ?_)
  refine zz_iincB (npc := 134) (y3 + 1) (lv1 := fun v18 => [(3, .int v18), (0, .ref (eA E 0)), (1, .ref (eA E d1)), (2, .int y2)]) dX7_weighByShade_131 rfl 3 rfl rfl (by decide) (fun _ => rfl) (fun v18 => ?_)
  refine zz_goto (npc := 0) (tgt := 41) dX7_weighByShade_134 (by decide) ?_
  refine zz_sub (npc := 0) (lv1 := [(0, .ref (eA E 0)), (1, .ref (eA E d1)), (2, .int y2), (3, .int v18)]) [1, 2, 3, 0] rfl ?_
  exact hk41 y2 v18 M17
noncomputable def fX7_weighByShade_L127 (d1 : Nat) (k41 : Int32 → Int32 → Mem → Option (Int32 × Mem)) (y2 : Int32) (y3 : Int32) (w0 : Int32) (w1 : Int32) (M : Mem) : Option (Int32 × Mem) := (fX7_weighByShade_L128 d1 k41 y2 y3 (-1) w0 w1 M)
set_option maxHeartbeats 4000000 in
set_option maxRecDepth 100000 in
theorem zX7_weighByShade_L127 (E : EV) (l : Launch) (d1 : Nat) (hd1 : isSh d1) (k41 : Int32 → Int32 → Mem → Option (Int32 × Mem)) (hk41 : ∀ (y2_ : Int32) (y3_ : Int32) (M_ : Mem), ZZ E l RX7 cX7_weighByShade 4 (some .boolean) wsX7_weighByShade rmX7_weighByShade vI (k41 y2_ y3_ M_) M_ [(0, .ref (eA E 0)), (1, .ref (eA E d1)), (2, .int y2_), (3, .int y3_)] 41 []) : ∀ (y2 : Int32) (y3 : Int32) (w0 : Int32) (w1 : Int32) (M : Mem), ZZ E l RX7 cX7_weighByShade 4 (some .boolean) wsX7_weighByShade rmX7_weighByShade vI (fX7_weighByShade_L127 d1 k41 y2 y3 w0 w1 M) M [(0, .ref (eA E 0)), (1, .ref (eA E d1)), (2, .int y2), (3, .int y3)] 127 [.int w0, .int w1, .ref (eA E 29)] := by
  intro y2 y3 w0 w1 M
  unfold fX7_weighByShade_L127
  refine zz_iconst (npc := 128) (-1) (by decide) dX7_weighByShade_127 rfl ?_
  exact zX7_weighByShade_L128 E l d1 hd1 k41 hk41 y2 y3 (-1) w0 w1 M
noncomputable def fX7_weighByShade_L41 (d1 : Nat) (k28 : Int32 → Mem → Option (Int32 × Mem)) : Nat → Int32 → Int32 → Mem → Option (Int32 × Mem)
  | 0, _, _, _ => none
  | n + 1, y2, y3, M => (if (M 1 6) ≤ y3 then (bv (y2 + 1) fun v8 => (k28 v8 M)) else (bd (fX4_begin 1 M) fun _ M9 => (bd (fX1_separate 16 y2 M9) fun _ M10 => (bd (fX1_join 16 y2 y3 M10) fun _ M11 => (bd (fX4_run M11) fun _ M12 => (bd (fX4_isShadeOf d1 y2 M12) fun r14 M13 => (if r14 = 0 then (fX7_weighByShade_L127 d1 (fX7_weighByShade_L41 d1 k28 n) y2 y3 y3 y2 M13) else (bd (fX4_isShadeOf d1 y3 M13) fun r16 M15 => (if r16 = 0 then (fX7_weighByShade_L127 d1 (fX7_weighByShade_L41 d1 k28 n) y2 y3 y3 y2 M15) else (fX7_weighByShade_L128 d1 (fX7_weighByShade_L41 d1 k28 n) y2 y3 0 y3 y2 M15))))))))))
set_option maxHeartbeats 4000000 in
set_option maxRecDepth 100000 in
theorem zX7_weighByShade_L41 (E : EV) (l : Launch) (d1 : Nat) (hd1 : isSh d1) (k28 : Int32 → Mem → Option (Int32 × Mem)) (hk28 : ∀ (y2_ : Int32) (M_ : Mem), ZZ E l RX7 cX7_weighByShade 4 (some .boolean) wsX7_weighByShade rmX7_weighByShade vI (k28 y2_ M_) M_ [(0, .ref (eA E 0)), (1, .ref (eA E d1)), (2, .int y2_)] 28 []) : ∀ (n : Nat) (y2 : Int32) (y3 : Int32) (M : Mem), ZZ E l RX7 cX7_weighByShade 4 (some .boolean) wsX7_weighByShade rmX7_weighByShade vI (fX7_weighByShade_L41 d1 k28 n y2 y3 M) M [(0, .ref (eA E 0)), (1, .ref (eA E d1)), (2, .int y2), (3, .int y3)] 41 [] := by
  intro n
  induction n with
  | zero => intros; exact zz_none
  | succ n ih =>
    intro y2 y3 M
    rw [fX7_weighByShade_L41]
    refine zz_iload_n (npc := 42) 3 rfl rfl dX7_weighByShade_41 rfl ?_
    refine zz_aload_n (npc := 43) 0 rfl rfl dX7_weighByShade_42 rfl ?_
    refine zz_getR (npc := 46) (i := 0) (C0 := RX7) (T := TX7) (N := 10) (by decide) (by rfl) rfl (by decide) iX7_weighByShade_7 (List.mem_of_getElem? (i := 1) rfl) rfl dX7_weighByShade_43 rfl ?_
    refine zz_getI (npc := 49) (i := 6) (C0 := RX1) (T := TX1) (N := 12) (by decide) (by rfl) rfl (by decide) iX7_weighByShade_1 (List.mem_of_getElem? (i := 3) rfl) rfl dX7_weighByShade_46 rfl ?_
    refine zz_icmp_ge (tgt := 137) (npc := 52) dX7_weighByShade_49 (by decide) rfl ?_ ?_
    · refine zz_iincB (npc := 140) (y2 + 1) (lv1 := fun v8 => [(2, .int v8), (0, .ref (eA E 0)), (1, .ref (eA E d1)), (3, .int y3)]) dX7_weighByShade_137 rfl 2 rfl rfl (by decide) (fun _ => rfl) (fun v8 => ?_)
      refine zz_goto (npc := 0) (tgt := 28) dX7_weighByShade_140 (by decide) ?_
      refine zz_sub (npc := 0) (lv1 := [(0, .ref (eA E 0)), (1, .ref (eA E d1)), (2, .int v8)]) [1, 2, 0] rfl ?_
      exact hk28 v8 M
    · refine zz_aload_n (npc := 53) 0 rfl rfl dX7_weighByShade_52 rfl ?_
      refine zz_getR (npc := 56) (i := 2) (C0 := RX7) (T := TX7) (N := 10) (by decide) (by rfl) rfl (by decide) iX7_weighByShade_7 (List.mem_of_getElem? (i := 4) rfl) rfl dX7_weighByShade_53 rfl ?_
      refine zz_aload_n (npc := 57) 0 rfl rfl dX7_weighByShade_56 rfl ?_
      refine zz_getR (npc := 60) (i := 0) (C0 := RX7) (T := TX7) (N := 10) (by decide) (by rfl) rfl (by decide) iX7_weighByShade_7 (List.mem_of_getElem? (i := 1) rfl) rfl dX7_weighByShade_57 rfl ?_
      refine zz_callVv (npc := 63) (n := 1) (As := [.ref (eA E 1)]) (by decide) (by rfl) rfl gX7_weighByShade_X4_begin rfl rfl rfl (by decide +kernel) ⟨Nat.le_of_ble_eq_true rfl, Nat.le_of_ble_eq_true rfl⟩ rfl rfl (Nat.le_of_ble_eq_true rfl) (mtX4_begin E l 1 ld_c1  M) dX7_weighByShade_60 rfl (fun _ M9 _ => ?_)
      refine zz_aload_n (npc := 64) 0 rfl rfl dX7_weighByShade_63 rfl ?_
      refine zz_getR (npc := 67) (i := 2) (C0 := RX7) (T := TX7) (N := 10) (by decide) (by rfl) rfl (by decide) iX7_weighByShade_7 (List.mem_of_getElem? (i := 4) rfl) rfl dX7_weighByShade_64 rfl ?_
      refine zz_getR (npc := 70) (i := 0) (C0 := RX4) (T := TX4) (N := 4) (by decide) (by rfl) rfl (by decide) iX7_weighByShade_4 (List.mem_of_getElem? (i := 5) rfl) rfl dX7_weighByShade_67 rfl ?_
      refine zz_iload_n (npc := 71) 2 rfl rfl dX7_weighByShade_70 rfl ?_
      refine zz_callVv (npc := 74) (n := 1) (As := [.int y2]) (by decide) (by rfl) rfl gX7_weighByShade_X1_separate rfl rfl rfl (by decide +kernel) ⟨Nat.le_of_ble_eq_true rfl, Nat.le_of_ble_eq_true rfl⟩ rfl rfl (Nat.le_of_ble_eq_true rfl) (mtX1_separate E l 16 ld_c16 y2 M9) dX7_weighByShade_71 rfl (fun _ M10 _ => ?_)
      refine zz_aload_n (npc := 75) 0 rfl rfl dX7_weighByShade_74 rfl ?_
      refine zz_getR (npc := 78) (i := 2) (C0 := RX7) (T := TX7) (N := 10) (by decide) (by rfl) rfl (by decide) iX7_weighByShade_7 (List.mem_of_getElem? (i := 4) rfl) rfl dX7_weighByShade_75 rfl ?_
      refine zz_getR (npc := 81) (i := 0) (C0 := RX4) (T := TX4) (N := 4) (by decide) (by rfl) rfl (by decide) iX7_weighByShade_4 (List.mem_of_getElem? (i := 5) rfl) rfl dX7_weighByShade_78 rfl ?_
      refine zz_iload_n (npc := 82) 2 rfl rfl dX7_weighByShade_81 rfl ?_
      refine zz_iload_n (npc := 83) 3 rfl rfl dX7_weighByShade_82 rfl ?_
      refine zz_callVv (npc := 86) (n := 2) (As := [.int y2, .int y3]) (by decide) (by rfl) rfl gX7_weighByShade_X1_join rfl rfl rfl (by decide +kernel) ⟨Nat.le_of_ble_eq_true rfl, Nat.le_of_ble_eq_true rfl⟩ rfl rfl (Nat.le_of_ble_eq_true rfl) (mtX1_join E l 16 ld_c16 y2 y3 M10) dX7_weighByShade_83 rfl (fun _ M11 _ => ?_)
      refine zz_aload_n (npc := 87) 0 rfl rfl dX7_weighByShade_86 rfl ?_
      refine zz_getR (npc := 90) (i := 2) (C0 := RX7) (T := TX7) (N := 10) (by decide) (by rfl) rfl (by decide) iX7_weighByShade_7 (List.mem_of_getElem? (i := 4) rfl) rfl dX7_weighByShade_87 rfl ?_
      refine zz_callVv (npc := 93) (n := 0) (As := []) (by decide) (by rfl) rfl gX7_weighByShade_X4_run rfl rfl rfl (by decide +kernel) ⟨Nat.le_of_ble_eq_true rfl, Nat.le_of_ble_eq_true rfl⟩ rfl rfl (Nat.le_of_ble_eq_true rfl) (mtX4_run E l   M11) dX7_weighByShade_90 rfl (fun _ M12 _ => ?_)
      refine zz_aload_n (npc := 94) 0 rfl rfl dX7_weighByShade_93 rfl ?_
      refine zz_getR (npc := 97) (i := 4) (C0 := RX7) (T := TX7) (N := 10) (by decide) (by rfl) rfl (by decide) iX7_weighByShade_7 (List.mem_of_getElem? (i := 6) rfl) rfl dX7_weighByShade_94 rfl ?_
      refine zz_iload_n (npc := 98) 2 rfl rfl dX7_weighByShade_97 rfl ?_
      refine zz_iload_n (npc := 99) 3 rfl rfl dX7_weighByShade_98 rfl ?_
      refine zz_aload_n (npc := 100) 0 rfl rfl dX7_weighByShade_99 rfl ?_
      refine zz_getR (npc := 103) (i := 2) (C0 := RX7) (T := TX7) (N := 10) (by decide) (by rfl) rfl (by decide) iX7_weighByShade_7 (List.mem_of_getElem? (i := 4) rfl) rfl dX7_weighByShade_100 rfl ?_
      refine zz_iload_n (npc := 104) 2 rfl rfl dX7_weighByShade_103 rfl ?_
      refine zz_aload_n (npc := 105) 1 rfl rfl dX7_weighByShade_104 rfl ?_
      refine zz_callVi (npc := 108) (n := 2) (As := [.int y2, .ref (eA E d1)]) (by decide) (by rfl) rfl gX7_weighByShade_X4_isShadeOf rfl rfl rfl (by decide +kernel) ⟨Nat.le_of_ble_eq_true rfl, Nat.le_of_ble_eq_true rfl⟩ rfl rfl (Nat.le_of_ble_eq_true rfl) (mtX4_isShadeOf E l d1 hd1 y2 M12) dX7_weighByShade_105 rfl (fun r14 M13 _ => ?_)
      refine zz_if_eq (tgt := 127) (npc := 111) dX7_weighByShade_108 (by decide) rfl ?_ ?_
      · exact zX7_weighByShade_L127 E l d1 hd1 (fX7_weighByShade_L41 d1 k28 n) ih y2 y3 y3 y2 M13
      · refine zz_aload_n (npc := 112) 0 rfl rfl dX7_weighByShade_111 rfl ?_
        refine zz_getR (npc := 115) (i := 2) (C0 := RX7) (T := TX7) (N := 10) (by decide) (by rfl) rfl (by decide) iX7_weighByShade_7 (List.mem_of_getElem? (i := 4) rfl) rfl dX7_weighByShade_112 rfl ?_
        refine zz_iload_n (npc := 116) 3 rfl rfl dX7_weighByShade_115 rfl ?_
        refine zz_aload_n (npc := 117) 1 rfl rfl dX7_weighByShade_116 rfl ?_
        refine zz_callVi (npc := 120) (n := 2) (As := [.int y3, .ref (eA E d1)]) (by decide) (by rfl) rfl gX7_weighByShade_X4_isShadeOf rfl rfl rfl (by decide +kernel) ⟨Nat.le_of_ble_eq_true rfl, Nat.le_of_ble_eq_true rfl⟩ rfl rfl (Nat.le_of_ble_eq_true rfl) (mtX4_isShadeOf E l d1 hd1 y3 M13) dX7_weighByShade_117 rfl (fun r16 M15 _ => ?_)
        refine zz_if_eq (tgt := 127) (npc := 123) dX7_weighByShade_120 (by decide) rfl ?_ ?_
        · exact zX7_weighByShade_L127 E l d1 hd1 (fX7_weighByShade_L41 d1 k28 n) ih y2 y3 y3 y2 M15
        · refine zz_iconst (npc := 124) 0 (by decide) dX7_weighByShade_123 rfl ?_
          refine zz_goto (npc := 0) (tgt := 128) dX7_weighByShade_124 (by decide) ?_
          exact zX7_weighByShade_L128 E l d1 hd1 (fX7_weighByShade_L41 d1 k28 n) ih y2 y3 0 y3 y2 M15
noncomputable def fX7_weighByShade_L28 (d1 : Nat)  : Nat → Int32 → Mem → Option (Int32 × Mem)
  | 0, _, _ => none
  | n + 1, y2, M => (if (M 1 6) ≤ y2 then (bd (fX1_everybody 1 M) fun r6 M5 => (bd (fX2_weigh r6 M5) fun _ M7 => (ck (isb 1) (some (1, M7))))) else (fX7_weighByShade_L41 d1 (fX7_weighByShade_L28 d1 n) fu y2 y2 M))
set_option maxHeartbeats 4000000 in
set_option maxRecDepth 100000 in
theorem zX7_weighByShade_L28 (E : EV) (l : Launch) (d1 : Nat) (hd1 : isSh d1)   : ∀ (n : Nat) (y2 : Int32) (M : Mem), ZZ E l RX7 cX7_weighByShade 4 (some .boolean) wsX7_weighByShade rmX7_weighByShade vI (fX7_weighByShade_L28 d1 n y2 M) M [(0, .ref (eA E 0)), (1, .ref (eA E d1)), (2, .int y2)] 28 [] := by
  intro n
  induction n with
  | zero => intros; exact zz_none
  | succ n ih =>
    intro y2 M
    rw [fX7_weighByShade_L28]
    refine zz_iload_n (npc := 29) 2 rfl rfl dX7_weighByShade_28 rfl ?_
    refine zz_aload_n (npc := 30) 0 rfl rfl dX7_weighByShade_29 rfl ?_
    refine zz_getR (npc := 33) (i := 0) (C0 := RX7) (T := TX7) (N := 10) (by decide) (by rfl) rfl (by decide) iX7_weighByShade_7 (List.mem_of_getElem? (i := 1) rfl) rfl dX7_weighByShade_30 rfl ?_
    refine zz_getI (npc := 36) (i := 6) (C0 := RX1) (T := TX1) (N := 12) (by decide) (by rfl) rfl (by decide) iX7_weighByShade_1 (List.mem_of_getElem? (i := 3) rfl) rfl dX7_weighByShade_33 rfl ?_
    refine zz_icmp_ge (tgt := 143) (npc := 39) dX7_weighByShade_36 (by decide) rfl ?_ ?_
    · refine zz_aload_n (npc := 144) 0 rfl rfl dX7_weighByShade_143 rfl ?_
      refine zz_getR (npc := 147) (i := 4) (C0 := RX7) (T := TX7) (N := 10) (by decide) (by rfl) rfl (by decide) iX7_weighByShade_7 (List.mem_of_getElem? (i := 6) rfl) rfl dX7_weighByShade_144 rfl ?_
      refine zz_aload_n (npc := 148) 0 rfl rfl dX7_weighByShade_147 rfl ?_
      refine zz_getR (npc := 151) (i := 0) (C0 := RX7) (T := TX7) (N := 10) (by decide) (by rfl) rfl (by decide) iX7_weighByShade_7 (List.mem_of_getElem? (i := 1) rfl) rfl dX7_weighByShade_148 rfl ?_
      refine zz_callVi (npc := 154) (n := 0) (As := []) (by decide) (by rfl) rfl gX7_weighByShade_X1_everybody rfl rfl rfl (by decide +kernel) ⟨Nat.le_of_ble_eq_true rfl, Nat.le_of_ble_eq_true rfl⟩ rfl rfl (Nat.le_of_ble_eq_true rfl) (mtX1_everybody E l 1 ld_c1  M) dX7_weighByShade_151 rfl (fun r6 M5 _ => ?_)
      refine zz_callVv (npc := 157) (n := 1) (As := [.int r6]) (by decide) (by rfl) rfl gX7_weighByShade_X2_weigh rfl rfl rfl (by decide +kernel) ⟨Nat.le_of_ble_eq_true rfl, Nat.le_of_ble_eq_true rfl⟩ rfl rfl (Nat.le_of_ble_eq_true rfl) (mtX2_weigh E l  r6 M5) dX7_weighByShade_154 rfl (fun _ M7 _ => ?_)
      refine zz_iconst (npc := 158) 1 (by decide) dX7_weighByShade_157 rfl ?_
      exact zz_zret dX7_weighByShade_158
    · refine zz_iload_n (npc := 40) 2 rfl rfl dX7_weighByShade_39 rfl ?_
      refine zz_istore_n (npc := 41) (lv1 := [(3, .int y2), (0, .ref (eA E 0)), (1, .ref (eA E d1)), (2, .int y2)]) rfl dX7_weighByShade_40 rfl (by decide) rfl ?_
      refine zz_sub (npc := 0) (lv1 := [(0, .ref (eA E 0)), (1, .ref (eA E d1)), (2, .int y2), (3, .int y2)]) [1, 2, 3, 0] rfl ?_
      exact zX7_weighByShade_L41 E l d1 hd1 (fX7_weighByShade_L28 d1 n) ih fu y2 y2 M
noncomputable def fX7_weighByShade (d1 : Nat)  (M : Mem) : Option (Int32 × Mem) := (bd (fX1_everybody 1 M) fun r2 M1 => (bd (fX5_tellsSetsOf d1 r2 (16 - (M1 1 8)) M1) fun r4 M3 => (if r4 = 0 then (ck (isb 0) (some (0, M3))) else (fX7_weighByShade_L28 d1 fu 0 M3))))
set_option maxHeartbeats 4000000 in
set_option maxRecDepth 100000 in
theorem mtX7_weighByShade (E : EV) (l : Launch) (d1 : Nat) (hd1 : isSh d1)  (M : Mem) : CT E l yX7_weighByShade wsX7_weighByShade rmX7_weighByShade vI [.ref (eA E 0), .ref (eA E d1)] (fX7_weighByShade d1 M) M := by
  refine ct_of (cc := cX7_weighByShade) (nL := 4) (ret := (some .boolean)) (by decide +kernel) rfl (Nat.le_of_ble_eq_true rfl) ?_
  show ZZ E l RX7 cX7_weighByShade 4 (some .boolean) wsX7_weighByShade rmX7_weighByShade vI (fX7_weighByShade d1 M) M [(0, .ref (eA E 0)), (1, .ref (eA E d1))] 0 []
  unfold fX7_weighByShade
  refine zz_aload_n (npc := 1) 1 rfl rfl dX7_weighByShade_0 rfl ?_
  refine zz_aload_n (npc := 2) 0 rfl rfl dX7_weighByShade_1 rfl ?_
  refine zz_getR (npc := 5) (i := 0) (C0 := RX7) (T := TX7) (N := 10) (by decide) (by rfl) rfl (by decide) iX7_weighByShade_7 (List.mem_of_getElem? (i := 1) rfl) rfl dX7_weighByShade_2 rfl ?_
  refine zz_callVi (npc := 8) (n := 0) (As := []) (by decide) (by rfl) rfl gX7_weighByShade_X1_everybody rfl rfl rfl (by decide +kernel) ⟨Nat.le_of_ble_eq_true rfl, Nat.le_of_ble_eq_true rfl⟩ rfl rfl (Nat.le_of_ble_eq_true rfl) (mtX1_everybody E l 1 ld_c1  M) dX7_weighByShade_5 rfl (fun r2 M1 _ => ?_)
  refine zz_bipush (npc := 10) 16 (by decide) dX7_weighByShade_8 rfl ?_
  refine zz_aload_n (npc := 11) 0 rfl rfl dX7_weighByShade_10 rfl ?_
  refine zz_getR (npc := 14) (i := 0) (C0 := RX7) (T := TX7) (N := 10) (by decide) (by rfl) rfl (by decide) iX7_weighByShade_7 (List.mem_of_getElem? (i := 1) rfl) rfl dX7_weighByShade_11 rfl ?_
  refine zz_getI (npc := 17) (i := 8) (C0 := RX1) (T := TX1) (N := 12) (by decide) (by rfl) rfl (by decide) iX7_weighByShade_1 (List.mem_of_getElem? (i := 2) rfl) rfl dX7_weighByShade_14 rfl ?_
  refine zz_isub (npc := 18) dX7_weighByShade_17 rfl ?_
  refine zz_callVi (npc := 21) (n := 2) (As := [.int r2, .int (16 - (M1 1 8))]) (sh_lt0 hd1) (sh_o hd1) rfl gX7_weighByShade_X5_tellsSetsOf rfl rfl rfl (by decide +kernel) ⟨Nat.le_of_ble_eq_true rfl, Nat.le_of_ble_eq_true rfl⟩ rfl rfl (Nat.le_of_ble_eq_true rfl) (mtX5_tellsSetsOf E l d1 hd1 r2 (16 - (M1 1 8)) M1) dX7_weighByShade_18 rfl (fun r4 M3 _ => ?_)
  refine zz_if_ne (tgt := 26) (npc := 24) dX7_weighByShade_21 (by decide) rfl ?_ ?_
  · refine zz_iconst (npc := 27) 0 (by decide) dX7_weighByShade_26 rfl ?_
    refine zz_istore_n (npc := 28) (lv1 := [(2, .int 0), (0, .ref (eA E 0)), (1, .ref (eA E d1))]) rfl dX7_weighByShade_27 rfl (by decide) rfl ?_
    refine zz_sub (npc := 0) (lv1 := [(0, .ref (eA E 0)), (1, .ref (eA E d1)), (2, .int 0)]) [1, 2, 0] rfl ?_
    exact zX7_weighByShade_L28 E l d1 hd1 fu 0 M3
  · refine zz_iconst (npc := 25) 0 (by decide) dX7_weighByShade_24 rfl ?_
    exact zz_zret dX7_weighByShade_25
abbrev rmX7_fits : Room := { frames := 6, cells := 0, slots := 0, locals := 165 }
theorem iX7_fits_7 : ∀ w ∈ u_ws RX7 TX7 10, w ∈ wsX7_fits := fun w h => List.mem_cons_of_mem _ (List.mem_append_left _ (List.mem_append_left _ (List.mem_append_left _ (List.mem_append_left _ (List.mem_append_right _ h)))))
noncomputable def fX7_fits  (x1 : Int32) (M : Mem) : Option (Int32 × Mem) := (bd (fX7_lackOf x1 M) fun r2 M1 => (if r2 = (-1) then (ck (inb x1 4) (bd (fX7_weighByShade (48 + 2 * ix x1) M1) fun r4 M3 => (if r4 = 0 then (some (0, M3)) else (bd (fX1_everybody 1 M3) fun r6 M5 => (bd (fX2_waysOf r6 M5) fun r8 M7 => (some (r8, M7))))))) else (bd (fX7_found r2 M1) fun r10 M9 => (some (r10, M9)))))
set_option maxHeartbeats 4000000 in
set_option maxRecDepth 100000 in
theorem mtX7_fits (E : EV) (l : Launch)   (x1 : Int32) (M : Mem) : CT E l yX7_fits wsX7_fits rmX7_fits vI [.ref (eA E 0), .int x1] (fX7_fits x1 M) M := by
  refine ct_of (cc := cX7_fits) (nL := 3) (ret := (some .int)) (by decide +kernel) rfl (Nat.le_of_ble_eq_true rfl) ?_
  show ZZ E l RX7 cX7_fits 3 (some .int) wsX7_fits rmX7_fits vI (fX7_fits x1 M) M [(0, .ref (eA E 0)), (1, .int x1)] 0 []
  unfold fX7_fits
  refine zz_aload_n (npc := 1) 0 rfl rfl dX7_fits_0 rfl ?_
  refine zz_iload_n (npc := 2) 1 rfl rfl dX7_fits_1 rfl ?_
  refine zz_callVi (npc := 5) (n := 1) (As := [.int x1]) (by decide) (by rfl) rfl gX7_fits_X7_lackOf rfl rfl rfl (by decide +kernel) ⟨Nat.le_of_ble_eq_true rfl, Nat.le_of_ble_eq_true rfl⟩ rfl rfl (Nat.le_of_ble_eq_true rfl) (mtX7_lackOf E l  x1 M) dX7_fits_2 rfl (fun r2 M1 _ => ?_)
  refine zz_istore_n (npc := 6) (lv1 := [(2, .int r2), (0, .ref (eA E 0)), (1, .int x1)]) rfl dX7_fits_5 rfl (by decide) rfl ?_
  refine zz_iload_n (npc := 7) 0 rfl rfl dX7_fits_6 rfl ?_
  refine zz_iconst (npc := 8) (-1) (by decide) dX7_fits_7 rfl ?_
  refine zz_icmp_eq (tgt := 17) (npc := 11) dX7_fits_8 (by decide) rfl ?_ ?_
  · refine zz_aload_n (npc := 18) 1 rfl rfl dX7_fits_17 rfl ?_
    refine zz_aload_n (npc := 19) 1 rfl rfl dX7_fits_18 rfl ?_
    refine zz_getR (npc := 22) (i := 7) (C0 := RX7) (T := TX7) (N := 10) (by decide) (by rfl) rfl (by decide) iX7_fits_7 (List.mem_of_getElem? (i := 1) rfl) rfl dX7_fits_19 rfl ?_
    refine zz_iload_n (npc := 23) 2 rfl rfl dX7_fits_22 rfl ?_
    refine zz_aaldS (npc := 24) (by decide) (by rfl) dX7_fits_23 rfl (fun hs23 => ?_)
    refine zz_callVi (npc := 27) (n := 1) (As := [.ref (eA E (48 + 2 * ix x1))]) (by decide) (by rfl) rfl gX7_fits_X7_weighByShade rfl rfl rfl (by decide +kernel) ⟨Nat.le_of_ble_eq_true rfl, Nat.le_of_ble_eq_true rfl⟩ rfl rfl (Nat.le_of_ble_eq_true rfl) (mtX7_weighByShade E l (48 + 2 * ix x1) (sh_ix hs23)  M1) dX7_fits_24 rfl (fun r4 M3 _ => ?_)
    refine zz_if_eq (tgt := 47) (npc := 30) dX7_fits_27 (by decide) rfl ?_ ?_
    · refine zz_iconst (npc := 48) 0 (by decide) dX7_fits_47 rfl ?_
      exact zz_iret dX7_fits_48
    · refine zz_aload_n (npc := 31) 1 rfl rfl dX7_fits_30 rfl ?_
      refine zz_getR (npc := 34) (i := 4) (C0 := RX7) (T := TX7) (N := 10) (by decide) (by rfl) rfl (by decide) iX7_fits_7 (List.mem_of_getElem? (i := 2) rfl) rfl dX7_fits_31 rfl ?_
      refine zz_aload_n (npc := 35) 1 rfl rfl dX7_fits_34 rfl ?_
      refine zz_getR (npc := 38) (i := 0) (C0 := RX7) (T := TX7) (N := 10) (by decide) (by rfl) rfl (by decide) iX7_fits_7 (List.mem_of_getElem? (i := 3) rfl) rfl dX7_fits_35 rfl ?_
      refine zz_callVi (npc := 41) (n := 0) (As := []) (by decide) (by rfl) rfl gX7_fits_X1_everybody rfl rfl rfl (by decide +kernel) ⟨Nat.le_of_ble_eq_true rfl, Nat.le_of_ble_eq_true rfl⟩ rfl rfl (Nat.le_of_ble_eq_true rfl) (mtX1_everybody E l 1 ld_c1  M3) dX7_fits_38 rfl (fun r6 M5 _ => ?_)
      refine zz_callVi (npc := 44) (n := 1) (As := [.int r6]) (by decide) (by rfl) rfl gX7_fits_X2_waysOf rfl rfl rfl (by decide +kernel) ⟨Nat.le_of_ble_eq_true rfl, Nat.le_of_ble_eq_true rfl⟩ rfl rfl (Nat.le_of_ble_eq_true rfl) (mtX2_waysOf E l  r6 M5) dX7_fits_41 rfl (fun r8 M7 _ => ?_)
      refine zz_goto (npc := 0) (tgt := 48) dX7_fits_44 (by decide) ?_
      exact zz_iret dX7_fits_48
  · refine zz_aload_n (npc := 12) 1 rfl rfl dX7_fits_11 rfl ?_
    refine zz_iload_n (npc := 13) 0 rfl rfl dX7_fits_12 rfl ?_
    refine zz_callVi (npc := 16) (n := 1) (As := [.int r2]) (by decide) (by rfl) rfl gX7_fits_X7_found rfl rfl rfl (by decide +kernel) ⟨Nat.le_of_ble_eq_true rfl, Nat.le_of_ble_eq_true rfl⟩ rfl rfl (Nat.le_of_ble_eq_true rfl) (mtX7_found E l  r2 M1) dX7_fits_13 rfl (fun r10 M9 _ => ?_)
    exact zz_iret dX7_fits_16
abbrev rmX7_may : Room := { frames := 6, cells := 0, slots := 0, locals := 165 }
theorem iX7_may_7 : ∀ w ∈ u_ws RX7 TX7 10, w ∈ wsX7_may := fun w h => List.mem_cons_of_mem _ (List.mem_append_left _ (List.mem_append_left _ (List.mem_append_left _ (List.mem_append_left _ (List.mem_append_right _ h)))))
noncomputable def fX7_may  (x1 : Int32) (x2 : Int32) (M : Mem) : Option (Int32 × Mem) := (bd (fX7_lackOf x1 M) fun r2 M1 => (if r2 = (-1) then (bd (fX1_isPerson 1 x2 M1) fun r4 M3 => (if r4 = 0 then (bd (fX7_found 0 M3) fun r12 M11 => (some (r12, M11))) else (ck (inb x1 4) (bd (fX7_weighByShade (48 + 2 * ix x1) M3) fun r6 M5 => (if r6 = 0 then (some (0, M5)) else (bd (fX1_everybody 1 M5) fun r8 M7 => (bd (fX2_matesOf x2 r8 M7) fun r10 M9 => (some (r10, M9))))))))) else (bd (fX7_found r2 M1) fun r14 M13 => (some (r14, M13)))))
set_option maxHeartbeats 4000000 in
set_option maxRecDepth 100000 in
theorem mtX7_may (E : EV) (l : Launch)   (x1 : Int32) (x2 : Int32) (M : Mem) : CT E l yX7_may wsX7_may rmX7_may vI [.ref (eA E 0), .int x1, .int x2] (fX7_may x1 x2 M) M := by
  refine ct_of (cc := cX7_may) (nL := 4) (ret := (some .int)) (by decide +kernel) rfl (Nat.le_of_ble_eq_true rfl) ?_
  show ZZ E l RX7 cX7_may 4 (some .int) wsX7_may rmX7_may vI (fX7_may x1 x2 M) M [(0, .ref (eA E 0)), (1, .int x1), (2, .int x2)] 0 []
  unfold fX7_may
  refine zz_aload_n (npc := 1) 0 rfl rfl dX7_may_0 rfl ?_
  refine zz_iload_n (npc := 2) 1 rfl rfl dX7_may_1 rfl ?_
  refine zz_callVi (npc := 5) (n := 1) (As := [.int x1]) (by decide) (by rfl) rfl gX7_may_X7_lackOf rfl rfl rfl (by decide +kernel) ⟨Nat.le_of_ble_eq_true rfl, Nat.le_of_ble_eq_true rfl⟩ rfl rfl (Nat.le_of_ble_eq_true rfl) (mtX7_lackOf E l  x1 M) dX7_may_2 rfl (fun r2 M1 _ => ?_)
  refine zz_istore_n (npc := 6) (lv1 := [(3, .int r2), (0, .ref (eA E 0)), (1, .int x1), (2, .int x2)]) rfl dX7_may_5 rfl (by decide) rfl ?_
  refine zz_iload_n (npc := 7) 0 rfl rfl dX7_may_6 rfl ?_
  refine zz_iconst (npc := 8) (-1) (by decide) dX7_may_7 rfl ?_
  refine zz_icmp_eq (tgt := 17) (npc := 11) dX7_may_8 (by decide) rfl ?_ ?_
  · refine zz_aload_n (npc := 18) 1 rfl rfl dX7_may_17 rfl ?_
    refine zz_getR (npc := 21) (i := 0) (C0 := RX7) (T := TX7) (N := 10) (by decide) (by rfl) rfl (by decide) iX7_may_7 (List.mem_of_getElem? (i := 1) rfl) rfl dX7_may_18 rfl ?_
    refine zz_iload_n (npc := 22) 3 rfl rfl dX7_may_21 rfl ?_
    refine zz_callVi (npc := 25) (n := 1) (As := [.int x2]) (by decide) (by rfl) rfl gX7_may_X1_isPerson rfl rfl rfl (by decide +kernel) ⟨Nat.le_of_ble_eq_true rfl, Nat.le_of_ble_eq_true rfl⟩ rfl rfl (Nat.le_of_ble_eq_true rfl) (mtX1_isPerson E l 1 ld_c1 x2 M1) dX7_may_22 rfl (fun r4 M3 _ => ?_)
    refine zz_if_ne (tgt := 34) (npc := 28) dX7_may_25 (by decide) rfl ?_ ?_
    · refine zz_aload_n (npc := 35) 1 rfl rfl dX7_may_34 rfl ?_
      refine zz_aload_n (npc := 36) 1 rfl rfl dX7_may_35 rfl ?_
      refine zz_getR (npc := 39) (i := 7) (C0 := RX7) (T := TX7) (N := 10) (by decide) (by rfl) rfl (by decide) iX7_may_7 (List.mem_of_getElem? (i := 2) rfl) rfl dX7_may_36 rfl ?_
      refine zz_iload_n (npc := 40) 2 rfl rfl dX7_may_39 rfl ?_
      refine zz_aaldS (npc := 41) (by decide) (by rfl) dX7_may_40 rfl (fun hs40 => ?_)
      refine zz_callVi (npc := 44) (n := 1) (As := [.ref (eA E (48 + 2 * ix x1))]) (by decide) (by rfl) rfl gX7_may_X7_weighByShade rfl rfl rfl (by decide +kernel) ⟨Nat.le_of_ble_eq_true rfl, Nat.le_of_ble_eq_true rfl⟩ rfl rfl (Nat.le_of_ble_eq_true rfl) (mtX7_weighByShade E l (48 + 2 * ix x1) (sh_ix hs40)  M3) dX7_may_41 rfl (fun r6 M5 _ => ?_)
      refine zz_if_eq (tgt := 65) (npc := 47) dX7_may_44 (by decide) rfl ?_ ?_
      · refine zz_iconst (npc := 66) 0 (by decide) dX7_may_65 rfl ?_
        exact zz_iret dX7_may_66
      · refine zz_aload_n (npc := 48) 1 rfl rfl dX7_may_47 rfl ?_
        refine zz_getR (npc := 51) (i := 4) (C0 := RX7) (T := TX7) (N := 10) (by decide) (by rfl) rfl (by decide) iX7_may_7 (List.mem_of_getElem? (i := 3) rfl) rfl dX7_may_48 rfl ?_
        refine zz_iload_n (npc := 52) 3 rfl rfl dX7_may_51 rfl ?_
        refine zz_aload_n (npc := 53) 1 rfl rfl dX7_may_52 rfl ?_
        refine zz_getR (npc := 56) (i := 0) (C0 := RX7) (T := TX7) (N := 10) (by decide) (by rfl) rfl (by decide) iX7_may_7 (List.mem_of_getElem? (i := 1) rfl) rfl dX7_may_53 rfl ?_
        refine zz_callVi (npc := 59) (n := 0) (As := []) (by decide) (by rfl) rfl gX7_may_X1_everybody rfl rfl rfl (by decide +kernel) ⟨Nat.le_of_ble_eq_true rfl, Nat.le_of_ble_eq_true rfl⟩ rfl rfl (Nat.le_of_ble_eq_true rfl) (mtX1_everybody E l 1 ld_c1  M5) dX7_may_56 rfl (fun r8 M7 _ => ?_)
        refine zz_callVi (npc := 62) (n := 2) (As := [.int x2, .int r8]) (by decide) (by rfl) rfl gX7_may_X2_matesOf rfl rfl rfl (by decide +kernel) ⟨Nat.le_of_ble_eq_true rfl, Nat.le_of_ble_eq_true rfl⟩ rfl rfl (Nat.le_of_ble_eq_true rfl) (mtX2_matesOf E l  x2 r8 M7) dX7_may_59 rfl (fun r10 M9 _ => ?_)
        refine zz_goto (npc := 0) (tgt := 66) dX7_may_62 (by decide) ?_
        exact zz_iret dX7_may_66
    · refine zz_aload_n (npc := 29) 1 rfl rfl dX7_may_28 rfl ?_
      refine zz_iconst (npc := 30) 0 (by decide) dX7_may_29 rfl ?_
      refine zz_callVi (npc := 33) (n := 1) (As := [.int 0]) (by decide) (by rfl) rfl gX7_may_X7_found rfl rfl rfl (by decide +kernel) ⟨Nat.le_of_ble_eq_true rfl, Nat.le_of_ble_eq_true rfl⟩ rfl rfl (Nat.le_of_ble_eq_true rfl) (mtX7_found E l  0 M3) dX7_may_30 rfl (fun r12 M11 _ => ?_)
      exact zz_iret dX7_may_33
  · refine zz_aload_n (npc := 12) 1 rfl rfl dX7_may_11 rfl ?_
    refine zz_iload_n (npc := 13) 0 rfl rfl dX7_may_12 rfl ?_
    refine zz_callVi (npc := 16) (n := 1) (As := [.int r2]) (by decide) (by rfl) rfl gX7_may_X7_found rfl rfl rfl (by decide +kernel) ⟨Nat.le_of_ble_eq_true rfl, Nat.le_of_ble_eq_true rfl⟩ rfl rfl (Nat.le_of_ble_eq_true rfl) (mtX7_found E l  r2 M1) dX7_may_13 rfl (fun r14 M13 _ => ?_)
    exact zz_iret dX7_may_16
abbrev rmX7_duelForce : Room := { frames := 2, cells := 0, slots := 0, locals := 49 }
theorem iX7_duelForce_1 : ∀ w ∈ u_ws RX1 TX1 12, w ∈ wsX7_duelForce := fun w h => List.mem_cons_of_mem _ (List.mem_append_right _ h)
theorem iX7_duelForce_7 : ∀ w ∈ u_ws RX7 TX7 10, w ∈ wsX7_duelForce := fun w h => List.mem_cons_of_mem _ (List.mem_append_left _ (List.mem_append_right _ h))
noncomputable def fX7_duelForce_L36   (y1 : Int32) (w0 : Int32) (M : Mem) : Option (Int32 × Mem) := (ck (inb y1 8) (if w0 = 0 then (some ((M 4 (ix y1)) + 0, M)) else (some ((M 4 (ix y1)) + 3, M))))
set_option maxHeartbeats 4000000 in
set_option maxRecDepth 100000 in
theorem zX7_duelForce_L36 (E : EV) (l : Launch)     : ∀ (y1 : Int32) (w0 : Int32) (M : Mem), ZZ E l RX7 cX7_duelForce 4 (some .int) wsX7_duelForce rmX7_duelForce vI (fX7_duelForce_L36 y1 w0 M) M [(0, .ref (eA E 0)), (1, .int y1)] 36 [.int w0] := by
  intro y1 w0 M
  unfold fX7_duelForce_L36
  refine zz_istore_n (npc := 37) (lv1 := [(3, .int w0), (0, .ref (eA E 0)), (1, .int y1)]) rfl dX7_duelForce_36 rfl (by decide) rfl ?_
  refine zz_aload_n (npc := 38) 1 rfl rfl dX7_duelForce_37 rfl ?_
  refine zz_getR (npc := 41) (i := 0) (C0 := RX7) (T := TX7) (N := 10) (by decide) (by rfl) rfl (by decide) iX7_duelForce_7 (List.mem_of_getElem? (i := 1) rfl) rfl dX7_duelForce_38 rfl ?_
  refine zz_getR (npc := 44) (i := 2) (C0 := RX1) (T := TX1) (N := 12) (by decide) (by rfl) rfl (by decide) iX7_duelForce_1 (List.mem_of_getElem? (i := 3) rfl) rfl dX7_duelForce_41 rfl ?_
  refine zz_iload_n (npc := 45) 2 rfl rfl dX7_duelForce_44 rfl ?_
  refine zz_iald (npc := 46) (by decide) (by rfl) dX7_duelForce_45 rfl ?_
  refine zz_iload_n (npc := 47) 0 rfl rfl dX7_duelForce_46 rfl ?_
  refine zz_if_eq (tgt := 54) (npc := 50) dX7_duelForce_47 (by decide) rfl ?_ ?_
  · refine zz_iconst (npc := 55) 0 (by decide) dX7_duelForce_54 rfl ?_
    refine zz_iadd (npc := 56) dX7_duelForce_55 rfl ?_
    exact zz_iret dX7_duelForce_56
  · refine zz_iconst (npc := 51) 3 (by decide) dX7_duelForce_50 rfl ?_
    refine zz_goto (npc := 0) (tgt := 55) dX7_duelForce_51 (by decide) ?_
    refine zz_iadd (npc := 56) dX7_duelForce_55 rfl ?_
    exact zz_iret dX7_duelForce_56
noncomputable def fX7_duelForce_L35   (y1 : Int32) (M : Mem) : Option (Int32 × Mem) := (fX7_duelForce_L36  y1 0 M)
set_option maxHeartbeats 4000000 in
set_option maxRecDepth 100000 in
theorem zX7_duelForce_L35 (E : EV) (l : Launch)     : ∀ (y1 : Int32) (M : Mem), ZZ E l RX7 cX7_duelForce 4 (some .int) wsX7_duelForce rmX7_duelForce vI (fX7_duelForce_L35 y1 M) M [(0, .ref (eA E 0)), (1, .int y1)] 35 [] := by
  intro y1 M
  unfold fX7_duelForce_L35
  refine zz_iconst (npc := 36) 0 (by decide) dX7_duelForce_35 rfl ?_
  exact zX7_duelForce_L36 E l  y1 0 M
noncomputable def fX7_duelForce  (x1 : Int32) (x2 : Int32) (M : Mem) : Option (Int32 × Mem) := (bd (fX7_bit (M 1 7) 8 M) fun r2 M1 => (if r2 = 1 then (bd (fX1_stronger 1 x1 x2 8 M1) fun r4 M3 => (if r4 = x1 then (fX7_duelForce_L36  x1 1 M3) else (fX7_duelForce_L35  x1 M3))) else (fX7_duelForce_L35  x1 M1)))
set_option maxHeartbeats 4000000 in
set_option maxRecDepth 100000 in
theorem mtX7_duelForce (E : EV) (l : Launch)   (x1 : Int32) (x2 : Int32) (M : Mem) : CT E l yX7_duelForce wsX7_duelForce rmX7_duelForce vI [.ref (eA E 0), .int x1, .int x2] (fX7_duelForce x1 x2 M) M := by
  refine ct_of (cc := cX7_duelForce) (nL := 4) (ret := (some .int)) (by decide +kernel) rfl (Nat.le_of_ble_eq_true rfl) ?_
  show ZZ E l RX7 cX7_duelForce 4 (some .int) wsX7_duelForce rmX7_duelForce vI (fX7_duelForce x1 x2 M) M [(0, .ref (eA E 0)), (1, .int x1), (2, .int x2)] 0 []
  unfold fX7_duelForce
  refine zz_aload_n (npc := 1) 0 rfl rfl dX7_duelForce_0 rfl ?_
  refine zz_getR (npc := 4) (i := 0) (C0 := RX7) (T := TX7) (N := 10) (by decide) (by rfl) rfl (by decide) iX7_duelForce_7 (List.mem_of_getElem? (i := 1) rfl) rfl dX7_duelForce_1 rfl ?_
  refine zz_getI (npc := 7) (i := 7) (C0 := RX1) (T := TX1) (N := 12) (by decide) (by rfl) rfl (by decide) iX7_duelForce_1 (List.mem_of_getElem? (i := 2) rfl) rfl dX7_duelForce_4 rfl ?_
  refine zz_bipush (npc := 9) 8 (by decide) dX7_duelForce_7 rfl ?_
  refine zz_callSi (npc := 12) (n := 2) (As := [.int (M 1 7), .int 8]) gX7_duelForce_X7_bit rfl rfl rfl (by decide +kernel) ⟨Nat.le_of_ble_eq_true rfl, Nat.le_of_ble_eq_true rfl⟩ rfl rfl (Nat.le_of_ble_eq_true rfl) (mtX7_bit E l  (M 1 7) 8 M) dX7_duelForce_9 rfl (fun r2 M1 _ => ?_)
  refine zz_iconst (npc := 13) 1 (by decide) dX7_duelForce_12 rfl ?_
  refine zz_icmp_ne (tgt := 35) (npc := 16) dX7_duelForce_13 (by decide) rfl ?_ ?_
  · refine zz_sub (npc := 0) (lv1 := [(0, .ref (eA E 0)), (1, .int x1)]) [0, 1] rfl ?_
    exact zX7_duelForce_L35 E l  x1 M1
  · refine zz_aload_n (npc := 17) 0 rfl rfl dX7_duelForce_16 rfl ?_
    refine zz_getR (npc := 20) (i := 0) (C0 := RX7) (T := TX7) (N := 10) (by decide) (by rfl) rfl (by decide) iX7_duelForce_7 (List.mem_of_getElem? (i := 1) rfl) rfl dX7_duelForce_17 rfl ?_
    refine zz_iload_n (npc := 21) 1 rfl rfl dX7_duelForce_20 rfl ?_
    refine zz_iload_n (npc := 22) 2 rfl rfl dX7_duelForce_21 rfl ?_
    refine zz_bipush (npc := 24) 8 (by decide) dX7_duelForce_22 rfl ?_
    refine zz_callVi (npc := 27) (n := 3) (As := [.int x1, .int x2, .int 8]) (by decide) (by rfl) rfl gX7_duelForce_X1_stronger rfl rfl rfl (by decide +kernel) ⟨Nat.le_of_ble_eq_true rfl, Nat.le_of_ble_eq_true rfl⟩ rfl rfl (Nat.le_of_ble_eq_true rfl) (mtX1_stronger E l 1 ld_c1 x1 x2 8 M1) dX7_duelForce_24 rfl (fun r4 M3 _ => ?_)
    refine zz_iload_n (npc := 28) 1 rfl rfl dX7_duelForce_27 rfl ?_
    refine zz_icmp_ne (tgt := 35) (npc := 31) dX7_duelForce_28 (by decide) rfl ?_ ?_
    · refine zz_sub (npc := 0) (lv1 := [(0, .ref (eA E 0)), (1, .int x1)]) [0, 1] rfl ?_
      exact zX7_duelForce_L35 E l  x1 M3
    · refine zz_iconst (npc := 32) 1 (by decide) dX7_duelForce_31 rfl ?_
      refine zz_goto (npc := 0) (tgt := 36) dX7_duelForce_32 (by decide) ?_
      refine zz_sub (npc := 0) (lv1 := [(0, .ref (eA E 0)), (1, .int x1)]) [0, 1] rfl ?_
      exact zX7_duelForce_L36 E l  x1 1 M3
abbrev rmX7_duel : Room := { frames := 3, cells := 0, slots := 0, locals := 72 }
theorem iX7_duel_7 : ∀ w ∈ u_ws RX7 TX7 10, w ∈ wsX7_duel := fun w h => List.mem_cons_of_mem _ (List.mem_append_left _ (List.mem_append_right _ h))
noncomputable def fX7_duel  (x1 : Int32) (x2 : Int32) (M : Mem) : Option (Int32 × Mem) := (bd (fX1_areTwo 1 x1 x2 M) fun r2 M1 => (if r2 = 0 then (bd (fX7_found 0 M1) fun r10 M9 => (some (r10, M9))) else (bv (imin x1 x2) fun v3 => (bv (imax x1 x2) fun v4 => (bd (fX7_duelForce v4 v3 M1) fun r6 M5 => (bd (fX7_duelForce v3 v4 M5) fun r8 M7 => (if r6 ≤ r8 then (some (v3, M7)) else (some (v4, M7)))))))))
set_option maxHeartbeats 4000000 in
set_option maxRecDepth 100000 in
theorem mtX7_duel (E : EV) (l : Launch)   (x1 : Int32) (x2 : Int32) (M : Mem) : CT E l yX7_duel wsX7_duel rmX7_duel vI [.ref (eA E 0), .int x1, .int x2] (fX7_duel x1 x2 M) M := by
  refine ct_of (cc := cX7_duel) (nL := 5) (ret := (some .int)) (by decide +kernel) rfl (Nat.le_of_ble_eq_true rfl) ?_
  show ZZ E l RX7 cX7_duel 5 (some .int) wsX7_duel rmX7_duel vI (fX7_duel x1 x2 M) M [(0, .ref (eA E 0)), (1, .int x1), (2, .int x2)] 0 []
  unfold fX7_duel
  refine zz_aload_n (npc := 1) 0 rfl rfl dX7_duel_0 rfl ?_
  refine zz_getR (npc := 4) (i := 0) (C0 := RX7) (T := TX7) (N := 10) (by decide) (by rfl) rfl (by decide) iX7_duel_7 (List.mem_of_getElem? (i := 1) rfl) rfl dX7_duel_1 rfl ?_
  refine zz_iload_n (npc := 5) 1 rfl rfl dX7_duel_4 rfl ?_
  refine zz_iload_n (npc := 6) 2 rfl rfl dX7_duel_5 rfl ?_
  refine zz_callVi (npc := 9) (n := 2) (As := [.int x1, .int x2]) (by decide) (by rfl) rfl gX7_duel_X1_areTwo rfl rfl rfl (by decide +kernel) ⟨Nat.le_of_ble_eq_true rfl, Nat.le_of_ble_eq_true rfl⟩ rfl rfl (Nat.le_of_ble_eq_true rfl) (mtX1_areTwo E l 1 ld_c1 x1 x2 M) dX7_duel_6 rfl (fun r2 M1 _ => ?_)
  refine zz_if_ne (tgt := 18) (npc := 12) dX7_duel_9 (by decide) rfl ?_ ?_
  · refine zz_iload_n (npc := 19) 1 rfl rfl dX7_duel_18 rfl ?_
    refine zz_iload_n (npc := 20) 2 rfl rfl dX7_duel_19 rfl ?_
    refine zz_mmin (npc := 23) (List.mem_of_getElem? (i := 2) rfl) (List.mem_of_getElem? (i := 3) rfl) (List.mem_of_getElem? (i := 4) rfl) (List.mem_of_getElem? (i := 5) rfl) (Nat.le_of_ble_eq_true rfl) (Nat.le_of_ble_eq_true rfl) dX7_duel_20 rfl ?_
    refine zz_istore_nB (npc := 24) (lv1 := fun v3 => [(3, .int v3), (0, .ref (eA E 0)), (1, .int x1), (2, .int x2)]) rfl dX7_duel_23 rfl (by decide) (fun _ => rfl) (fun v3 => ?_)
    refine zz_iload_n (npc := 25) 2 rfl rfl dX7_duel_24 rfl ?_
    refine zz_iload_n (npc := 26) 3 rfl rfl dX7_duel_25 rfl ?_
    refine zz_mmax (npc := 29) (List.mem_of_getElem? (i := 6) rfl) (List.mem_of_getElem? (i := 7) rfl) (List.mem_of_getElem? (i := 4) rfl) (List.mem_of_getElem? (i := 8) rfl) (Nat.le_of_ble_eq_true rfl) (Nat.le_of_ble_eq_true rfl) dX7_duel_26 rfl ?_
    refine zz_istoreB (npc := 31) (lv1 := fun v4 => [(4, .int v4), (3, .int v3), (0, .ref (eA E 0)), (1, .int x1), (2, .int x2)]) dX7_duel_29 rfl (by decide) (fun _ => rfl) (fun v4 => ?_)
    refine zz_aload_n (npc := 32) 2 rfl rfl dX7_duel_31 rfl ?_
    refine zz_iload (npc := 34) 0 rfl dX7_duel_32 rfl ?_
    refine zz_iload_n (npc := 35) 1 rfl rfl dX7_duel_34 rfl ?_
    refine zz_callVi (npc := 38) (n := 2) (As := [.int v4, .int v3]) (by decide) (by rfl) rfl gX7_duel_X7_duelForce rfl rfl rfl (by decide +kernel) ⟨Nat.le_of_ble_eq_true rfl, Nat.le_of_ble_eq_true rfl⟩ rfl rfl (Nat.le_of_ble_eq_true rfl) (mtX7_duelForce E l  v4 v3 M1) dX7_duel_35 rfl (fun r6 M5 _ => ?_)
    refine zz_aload_n (npc := 39) 2 rfl rfl dX7_duel_38 rfl ?_
    refine zz_iload_n (npc := 40) 1 rfl rfl dX7_duel_39 rfl ?_
    refine zz_iload (npc := 42) 0 rfl dX7_duel_40 rfl ?_
    refine zz_callVi (npc := 45) (n := 2) (As := [.int v3, .int v4]) (by decide) (by rfl) rfl gX7_duel_X7_duelForce rfl rfl rfl (by decide +kernel) ⟨Nat.le_of_ble_eq_true rfl, Nat.le_of_ble_eq_true rfl⟩ rfl rfl (Nat.le_of_ble_eq_true rfl) (mtX7_duelForce E l  v3 v4 M5) dX7_duel_42 rfl (fun r8 M7 _ => ?_)
    refine zz_icmp_le (tgt := 53) (npc := 48) dX7_duel_45 (by decide) rfl ?_ ?_
    · refine zz_iload_n (npc := 54) 1 rfl rfl dX7_duel_53 rfl ?_
      exact zz_iret dX7_duel_54
    · refine zz_iload (npc := 50) 0 rfl dX7_duel_48 rfl ?_
      refine zz_goto (npc := 0) (tgt := 54) dX7_duel_50 (by decide) ?_
      exact zz_iret dX7_duel_54
  · refine zz_aload_n (npc := 13) 0 rfl rfl dX7_duel_12 rfl ?_
    refine zz_iconst (npc := 14) 0 (by decide) dX7_duel_13 rfl ?_
    refine zz_callVi (npc := 17) (n := 1) (As := [.int 0]) (by decide) (by rfl) rfl gX7_duel_X7_found rfl rfl rfl (by decide +kernel) ⟨Nat.le_of_ble_eq_true rfl, Nat.le_of_ble_eq_true rfl⟩ rfl rfl (Nat.le_of_ble_eq_true rfl) (mtX7_found E l  0 M1) dX7_duel_14 rfl (fun r10 M9 _ => ?_)
    exact zz_iret dX7_duel_17
abbrev rmX7_commonDivisor : Room := { frames := 1, cells := 0, slots := 0, locals := 24 }
noncomputable def fX7_commonDivisor_L25  (k6 : Int32 → Int32 → Int32 → Mem → Option (Int32 × Mem)) (y0 : Int32) (y1 : Int32) (y2 : Int32) (M : Mem) : Option (Int32 × Mem) := (bv (y2 + (-1)) fun v2 => (k6 y0 y1 v2 M))
set_option maxHeartbeats 4000000 in
set_option maxRecDepth 100000 in
theorem zX7_commonDivisor_L25 (E : EV) (l : Launch)   (k6 : Int32 → Int32 → Int32 → Mem → Option (Int32 × Mem)) (hk6 : ∀ (y0_ : Int32) (y1_ : Int32) (y2_ : Int32) (M_ : Mem), ZZ E l RX7 cX7_commonDivisor 3 (some .int) wsX7_commonDivisor rmX7_commonDivisor vI (k6 y0_ y1_ y2_ M_) M_ [(0, .int y0_), (1, .int y1_), (2, .int y2_)] 6 []) : ∀ (y0 : Int32) (y1 : Int32) (y2 : Int32) (M : Mem), ZZ E l RX7 cX7_commonDivisor 3 (some .int) wsX7_commonDivisor rmX7_commonDivisor vI (fX7_commonDivisor_L25 k6 y0 y1 y2 M) M [(0, .int y0), (1, .int y1), (2, .int y2)] 25 [] := by
  intro y0 y1 y2 M
  unfold fX7_commonDivisor_L25
  refine zz_iincB (npc := 28) (y2 + (-1)) (lv1 := fun v2 => [(2, .int v2), (0, .int y0), (1, .int y1)]) dX7_commonDivisor_25 rfl 2 rfl rfl (by decide) (fun _ => rfl) (fun v2 => ?_)
  refine zz_goto (npc := 0) (tgt := 6) dX7_commonDivisor_28 (by decide) ?_
  refine zz_sub (npc := 0) (lv1 := [(0, .int y0), (1, .int y1), (2, .int v2)]) [1, 2, 0] rfl ?_
  exact hk6 y0 y1 v2 M
noncomputable def fX7_commonDivisor_L6   : Nat → Int32 → Int32 → Int32 → Mem → Option (Int32 × Mem)
  | 0, _, _, _, _ => none
  | n + 1, y0, y1, y2, M => (if y2 ≤ 1 then (some (1, M)) else (ck (!decide (y2 = 0)) (if (irm y0 y2) = 0 then (ck (!decide (y2 = 0)) (if (irm y1 y2) = 0 then (some (y2, M)) else (fX7_commonDivisor_L25 (fX7_commonDivisor_L6  n) y0 y1 y2 M))) else (fX7_commonDivisor_L25 (fX7_commonDivisor_L6  n) y0 y1 y2 M))))
set_option maxHeartbeats 4000000 in
set_option maxRecDepth 100000 in
theorem zX7_commonDivisor_L6 (E : EV) (l : Launch)     : ∀ (n : Nat) (y0 : Int32) (y1 : Int32) (y2 : Int32) (M : Mem), ZZ E l RX7 cX7_commonDivisor 3 (some .int) wsX7_commonDivisor rmX7_commonDivisor vI (fX7_commonDivisor_L6 n y0 y1 y2 M) M [(0, .int y0), (1, .int y1), (2, .int y2)] 6 [] := by
  intro n
  induction n with
  | zero => intros; exact zz_none
  | succ n ih =>
    intro y0 y1 y2 M
    rw [fX7_commonDivisor_L6]
    refine zz_iload_n (npc := 7) 2 rfl rfl dX7_commonDivisor_6 rfl ?_
    refine zz_iconst (npc := 8) 1 (by decide) dX7_commonDivisor_7 rfl ?_
    refine zz_icmp_le (tgt := 31) (npc := 11) dX7_commonDivisor_8 (by decide) rfl ?_ ?_
    · refine zz_iconst (npc := 32) 1 (by decide) dX7_commonDivisor_31 rfl ?_
      exact zz_iret dX7_commonDivisor_32
    · refine zz_iload_n (npc := 12) 0 rfl rfl dX7_commonDivisor_11 rfl ?_
      refine zz_iload_n (npc := 13) 2 rfl rfl dX7_commonDivisor_12 rfl ?_
      refine zz_iremg (npc := 14) dX7_commonDivisor_13 rfl ?_
      refine zz_if_ne (tgt := 25) (npc := 17) dX7_commonDivisor_14 (by decide) rfl ?_ ?_
      · exact zX7_commonDivisor_L25 E l (fX7_commonDivisor_L6  n) ih y0 y1 y2 M
      · refine zz_iload_n (npc := 18) 1 rfl rfl dX7_commonDivisor_17 rfl ?_
        refine zz_iload_n (npc := 19) 2 rfl rfl dX7_commonDivisor_18 rfl ?_
        refine zz_iremg (npc := 20) dX7_commonDivisor_19 rfl ?_
        refine zz_if_ne (tgt := 25) (npc := 23) dX7_commonDivisor_20 (by decide) rfl ?_ ?_
        · exact zX7_commonDivisor_L25 E l (fX7_commonDivisor_L6  n) ih y0 y1 y2 M
        · refine zz_iload_n (npc := 24) 2 rfl rfl dX7_commonDivisor_23 rfl ?_
          exact zz_iret dX7_commonDivisor_24
noncomputable def fX7_commonDivisor  (x1 : Int32) (x2 : Int32) (M : Mem) : Option (Int32 × Mem) := (bv (imax x1 x2) fun v1 => (fX7_commonDivisor_L6  fu x1 x2 v1 M))
set_option maxHeartbeats 4000000 in
set_option maxRecDepth 100000 in
theorem mtX7_commonDivisor (E : EV) (l : Launch)   (x1 : Int32) (x2 : Int32) (M : Mem) : CT E l yX7_commonDivisor wsX7_commonDivisor rmX7_commonDivisor vI [.int x1, .int x2] (fX7_commonDivisor x1 x2 M) M := by
  refine ct_of (cc := cX7_commonDivisor) (nL := 3) (ret := (some .int)) (by decide +kernel) rfl (Nat.le_of_ble_eq_true rfl) ?_
  show ZZ E l RX7 cX7_commonDivisor 3 (some .int) wsX7_commonDivisor rmX7_commonDivisor vI (fX7_commonDivisor x1 x2 M) M [(0, .int x1), (1, .int x2)] 0 []
  unfold fX7_commonDivisor
  refine zz_iload_n (npc := 1) 0 rfl rfl dX7_commonDivisor_0 rfl ?_
  refine zz_iload_n (npc := 2) 1 rfl rfl dX7_commonDivisor_1 rfl ?_
  refine zz_mmax (npc := 5) (List.mem_of_getElem? (i := 1) rfl) (List.mem_of_getElem? (i := 2) rfl) (List.mem_of_getElem? (i := 3) rfl) (List.mem_of_getElem? (i := 4) rfl) (Nat.le_of_ble_eq_true rfl) (Nat.le_of_ble_eq_true rfl) dX7_commonDivisor_2 rfl ?_
  refine zz_istore_nB (npc := 6) (lv1 := fun v1 => [(2, .int v1), (0, .int x1), (1, .int x2)]) rfl dX7_commonDivisor_5 rfl (by decide) (fun _ => rfl) (fun v1 => ?_)
  refine zz_sub (npc := 0) (lv1 := [(0, .int x1), (1, .int x2), (2, .int v1)]) [1, 2, 0] rfl ?_
  exact zX7_commonDivisor_L6 E l  fu x1 x2 v1 M
abbrev rmX7_power : Room := { frames := 0, cells := 0, slots := 0, locals := 0 }
noncomputable def fX7_power_L5   : Nat → Int32 → Int32 → Int64 → Int32 → Mem → Option (Int64 × Mem)
  | 0, _, _, _, _, _ => none
  | n + 1, y0, y1, y2, y4, M => (if y1 ≤ y4 then (some (y2, M)) else (bv (y2 * ((y0).toInt64)) fun v1 => (bv (y4 + 1) fun v2 => (fX7_power_L5  n y0 y1 v1 v2 M))))
set_option maxHeartbeats 4000000 in
set_option maxRecDepth 100000 in
theorem zX7_power_L5 (E : EV) (l : Launch)     : ∀ (n : Nat) (y0 : Int32) (y1 : Int32) (y2 : Int64) (y4 : Int32) (M : Mem), ZZ E l RX7 cX7_power 5 (some .long) wsX7_power rmX7_power vL (fX7_power_L5 n y0 y1 y2 y4 M) M [(0, .int y0), (1, .int y1), (2, .long y2), (4, .int y4)] 5 [] := by
  intro n
  induction n with
  | zero => intros; exact zz_none
  | succ n ih =>
    intro y0 y1 y2 y4 M
    rw [fX7_power_L5]
    refine zz_iload (npc := 7) 3 rfl dX7_power_5 rfl ?_
    refine zz_iload_n (npc := 8) 1 rfl rfl dX7_power_7 rfl ?_
    refine zz_icmp_ge (tgt := 22) (npc := 11) dX7_power_8 (by decide) rfl ?_ ?_
    · refine zz_lload_n (npc := 23) 2 rfl rfl dX7_power_22 rfl ?_
      exact zz_lret dX7_power_23
    · refine zz_lload_n (npc := 12) 2 rfl rfl dX7_power_11 rfl ?_
      refine zz_iload_n (npc := 13) 0 rfl rfl dX7_power_12 rfl ?_
      refine zz_i2l (npc := 14) dX7_power_13 rfl ?_
      refine zz_lmul (npc := 15) dX7_power_14 rfl ?_
      refine zz_lstore_nB (npc := 16) (lv1 := fun v1 => [(2, .long v1), (0, .int y0), (1, .int y1), (4, .int y4)]) rfl dX7_power_15 rfl (by decide) (fun _ => rfl) (fun v1 => ?_)
      refine zz_iincB (npc := 19) (y4 + 1) (lv1 := fun v2 => [(4, .int v2), (2, .long v1), (0, .int y0), (1, .int y1)]) dX7_power_16 rfl 3 rfl rfl (by decide) (fun _ => rfl) (fun v2 => ?_)
      refine zz_goto (npc := 0) (tgt := 5) dX7_power_19 (by decide) ?_
      refine zz_sub (npc := 0) (lv1 := [(0, .int y0), (1, .int y1), (2, .long v1), (4, .int v2)]) [2, 3, 1, 0] rfl ?_
      exact ih y0 y1 v1 v2 M
noncomputable def fX7_power  (x1 : Int32) (x2 : Int32) (M : Mem) : Option (Int64 × Mem) := (fX7_power_L5  fu x1 x2 1 0 M)
set_option maxHeartbeats 4000000 in
set_option maxRecDepth 100000 in
theorem mtX7_power (E : EV) (l : Launch)   (x1 : Int32) (x2 : Int32) (M : Mem) : CT E l yX7_power wsX7_power rmX7_power vL [.int x1, .int x2] (fX7_power x1 x2 M) M := by
  refine ct_of (cc := cX7_power) (nL := 5) (ret := (some .long)) (by decide +kernel) rfl (Nat.le_of_ble_eq_true rfl) ?_
  show ZZ E l RX7 cX7_power 5 (some .long) wsX7_power rmX7_power vL (fX7_power x1 x2 M) M [(0, .int x1), (1, .int x2)] 0 []
  unfold fX7_power
  refine zz_lconst (npc := 1) 1 (by decide) dX7_power_0 rfl ?_
  refine zz_lstore_n (npc := 2) (lv1 := [(2, .long 1), (0, .int x1), (1, .int x2)]) rfl dX7_power_1 rfl (by decide) rfl ?_
  refine zz_iconst (npc := 3) 0 (by decide) dX7_power_2 rfl ?_
  refine zz_istore (npc := 5) (lv1 := [(4, .int 0), (2, .long 1), (0, .int x1), (1, .int x2)]) dX7_power_3 rfl (by decide) rfl ?_
  refine zz_sub (npc := 0) (lv1 := [(0, .int x1), (1, .int x2), (2, .long 1), (4, .int 0)]) [2, 3, 1, 0] rfl ?_
  exact zX7_power_L5 E l  fu x1 x2 1 0 M
abbrev rmX7_lanterns : Room := { frames := 2, cells := 0, slots := 0, locals := 46 }
noncomputable def fX7_lanterns_L26    (M : Mem) : Option (Int64 × Mem) := (bd (fX7_found 0 M) fun r11 M10 => (some ((r11).toInt64, M10)))
set_option maxHeartbeats 4000000 in
set_option maxRecDepth 100000 in
theorem zX7_lanterns_L26 (E : EV) (l : Launch)     : ∀  (M : Mem), ZZ E l RX7 cX7_lanterns 6 (some .long) wsX7_lanterns rmX7_lanterns vL (fX7_lanterns_L26 M) M [(0, .ref (eA E 0))] 26 [] := by
  intro M
  unfold fX7_lanterns_L26
  refine zz_aload_n (npc := 27) 0 rfl rfl dX7_lanterns_26 rfl ?_
  refine zz_iconst (npc := 28) 0 (by decide) dX7_lanterns_27 rfl ?_
  refine zz_callVi (npc := 31) (n := 1) (As := [.int 0]) (by decide) (by rfl) rfl gX7_lanterns_X7_found rfl rfl rfl (by decide +kernel) ⟨Nat.le_of_ble_eq_true rfl, Nat.le_of_ble_eq_true rfl⟩ rfl rfl (Nat.le_of_ble_eq_true rfl) (mtX7_found E l  0 M) dX7_lanterns_28 rfl (fun r11 M10 _ => ?_)
  refine zz_i2l (npc := 32) dX7_lanterns_31 rfl ?_
  exact zz_lret dX7_lanterns_32
noncomputable def fX7_lanterns_L59   (y1 : Int32) (y5 : Int32) (w0 : Int32) (M : Mem) : Option (Int64 × Mem) := (ck (!decide (y5 = 0)) (bd (fX7_power (w0 / y5) y1 M) fun r13 M12 => (some (r13, M12))))
set_option maxHeartbeats 4000000 in
set_option maxRecDepth 100000 in
theorem zX7_lanterns_L59 (E : EV) (l : Launch)     : ∀ (y1 : Int32) (y5 : Int32) (w0 : Int32) (M : Mem), ZZ E l RX7 cX7_lanterns 6 (some .long) wsX7_lanterns rmX7_lanterns vL (fX7_lanterns_L59 y1 y5 w0 M) M [(1, .int y1), (5, .int y5)] 59 [.int w0] := by
  intro y1 y5 w0 M
  unfold fX7_lanterns_L59
  refine zz_iload (npc := 61) 1 rfl dX7_lanterns_59 rfl ?_
  refine zz_idivg (npc := 62) dX7_lanterns_61 rfl ?_
  refine zz_iload_n (npc := 63) 0 rfl rfl dX7_lanterns_62 rfl ?_
  refine zz_callSl (npc := 66) (n := 2) (As := [.int (w0 / y5), .int y1]) gX7_lanterns_X7_power rfl rfl rfl (by decide +kernel) ⟨Nat.le_of_ble_eq_true rfl, Nat.le_of_ble_eq_true rfl⟩ rfl rfl (Nat.le_of_ble_eq_true rfl) (mtX7_power E l  (w0 / y5) y1 M) dX7_lanterns_63 rfl (fun r13 M12 _ => ?_)
  exact zz_lret dX7_lanterns_66
noncomputable def fX7_lanterns  (x1 : Int32) (x2 : Int32) (x3 : Int32) (M : Mem) : Option (Int64 × Mem) := (bd (fX7_isWithin x1 15 M) fun r2 M1 => (if r2 = 0 then (fX7_lanterns_L26  M1) else (bd (fX7_isWithin x2 10 M1) fun r4 M3 => (if r4 = 0 then (fX7_lanterns_L26  M3) else (bd (fX7_isWithin x3 1 M3) fun r6 M5 => (if r6 = 0 then (fX7_lanterns_L26  M5) else (bv (10 - x2) fun v7 => (bd (fX7_commonDivisor v7 10 M5) fun r9 M8 => (if x3 = 0 then (fX7_lanterns_L59  x1 r9 v7 M8) else (fX7_lanterns_L59  x1 r9 10 M8))))))))))
set_option maxHeartbeats 4000000 in
set_option maxRecDepth 100000 in
theorem mtX7_lanterns (E : EV) (l : Launch)   (x1 : Int32) (x2 : Int32) (x3 : Int32) (M : Mem) : CT E l yX7_lanterns wsX7_lanterns rmX7_lanterns vL [.ref (eA E 0), .int x1, .int x2, .int x3] (fX7_lanterns x1 x2 x3 M) M := by
  refine ct_of (cc := cX7_lanterns) (nL := 6) (ret := (some .long)) (by decide +kernel) rfl (Nat.le_of_ble_eq_true rfl) ?_
  show ZZ E l RX7 cX7_lanterns 6 (some .long) wsX7_lanterns rmX7_lanterns vL (fX7_lanterns x1 x2 x3 M) M [(0, .ref (eA E 0)), (1, .int x1), (2, .int x2), (3, .int x3)] 0 []
  unfold fX7_lanterns
  refine zz_iload_n (npc := 1) 1 rfl rfl dX7_lanterns_0 rfl ?_
  refine zz_bipush (npc := 3) 15 (by decide) dX7_lanterns_1 rfl ?_
  refine zz_callSi (npc := 6) (n := 2) (As := [.int x1, .int 15]) gX7_lanterns_X7_isWithin rfl rfl rfl (by decide +kernel) ⟨Nat.le_of_ble_eq_true rfl, Nat.le_of_ble_eq_true rfl⟩ rfl rfl (Nat.le_of_ble_eq_true rfl) (mtX7_isWithin E l  x1 15 M) dX7_lanterns_3 rfl (fun r2 M1 _ => ?_)
  refine zz_if_eq (tgt := 26) (npc := 9) dX7_lanterns_6 (by decide) rfl ?_ ?_
  · refine zz_sub (npc := 0) (lv1 := [(0, .ref (eA E 0))]) [0] rfl ?_
    exact zX7_lanterns_L26 E l  M1
  · refine zz_iload_n (npc := 10) 2 rfl rfl dX7_lanterns_9 rfl ?_
    refine zz_bipush (npc := 12) 10 (by decide) dX7_lanterns_10 rfl ?_
    refine zz_callSi (npc := 15) (n := 2) (As := [.int x2, .int 10]) gX7_lanterns_X7_isWithin rfl rfl rfl (by decide +kernel) ⟨Nat.le_of_ble_eq_true rfl, Nat.le_of_ble_eq_true rfl⟩ rfl rfl (Nat.le_of_ble_eq_true rfl) (mtX7_isWithin E l  x2 10 M1) dX7_lanterns_12 rfl (fun r4 M3 _ => ?_)
    refine zz_if_eq (tgt := 26) (npc := 18) dX7_lanterns_15 (by decide) rfl ?_ ?_
    · refine zz_sub (npc := 0) (lv1 := [(0, .ref (eA E 0))]) [0] rfl ?_
      exact zX7_lanterns_L26 E l  M3
    · refine zz_iload_n (npc := 19) 3 rfl rfl dX7_lanterns_18 rfl ?_
      refine zz_iconst (npc := 20) 1 (by decide) dX7_lanterns_19 rfl ?_
      refine zz_callSi (npc := 23) (n := 2) (As := [.int x3, .int 1]) gX7_lanterns_X7_isWithin rfl rfl rfl (by decide +kernel) ⟨Nat.le_of_ble_eq_true rfl, Nat.le_of_ble_eq_true rfl⟩ rfl rfl (Nat.le_of_ble_eq_true rfl) (mtX7_isWithin E l  x3 1 M3) dX7_lanterns_20 rfl (fun r6 M5 _ => ?_)
      refine zz_if_ne (tgt := 33) (npc := 26) dX7_lanterns_23 (by decide) rfl ?_ ?_
      · refine zz_bipush (npc := 35) 10 (by decide) dX7_lanterns_33 rfl ?_
        refine zz_iload_n (npc := 36) 2 rfl rfl dX7_lanterns_35 rfl ?_
        refine zz_isub (npc := 37) dX7_lanterns_36 rfl ?_
        refine zz_istoreB (npc := 39) (lv1 := fun v7 => [(4, .int v7), (0, .ref (eA E 0)), (1, .int x1), (2, .int x2), (3, .int x3)]) dX7_lanterns_37 rfl (by decide) (fun _ => rfl) (fun v7 => ?_)
        refine zz_iload (npc := 41) 0 rfl dX7_lanterns_39 rfl ?_
        refine zz_bipush (npc := 43) 10 (by decide) dX7_lanterns_41 rfl ?_
        refine zz_callSi (npc := 46) (n := 2) (As := [.int v7, .int 10]) gX7_lanterns_X7_commonDivisor rfl rfl rfl (by decide +kernel) ⟨Nat.le_of_ble_eq_true rfl, Nat.le_of_ble_eq_true rfl⟩ rfl rfl (Nat.le_of_ble_eq_true rfl) (mtX7_commonDivisor E l  v7 10 M5) dX7_lanterns_43 rfl (fun r9 M8 _ => ?_)
        refine zz_istore (npc := 48) (lv1 := [(5, .int r9), (4, .int v7), (0, .ref (eA E 0)), (1, .int x1), (2, .int x2), (3, .int x3)]) dX7_lanterns_46 rfl (by decide) rfl ?_
        refine zz_iload_n (npc := 49) 5 rfl rfl dX7_lanterns_48 rfl ?_
        refine zz_if_ne (tgt := 57) (npc := 52) dX7_lanterns_49 (by decide) rfl ?_ ?_
        · refine zz_bipush (npc := 59) 10 (by decide) dX7_lanterns_57 rfl ?_
          refine zz_sub (npc := 0) (lv1 := [(1, .int x1), (5, .int r9)]) [3, 0] rfl ?_
          exact zX7_lanterns_L59 E l  x1 r9 10 M8
        · refine zz_iload (npc := 54) 1 rfl dX7_lanterns_52 rfl ?_
          refine zz_goto (npc := 0) (tgt := 59) dX7_lanterns_54 (by decide) ?_
          refine zz_sub (npc := 0) (lv1 := [(1, .int x1), (5, .int r9)]) [3, 0] rfl ?_
          exact zX7_lanterns_L59 E l  x1 r9 v7 M8
      · refine zz_sub (npc := 0) (lv1 := [(0, .ref (eA E 0))]) [0] rfl ?_
        exact zX7_lanterns_L26 E l  M5
abbrev rmX7_days : Room := { frames := 4, cells := 0, slots := 0, locals := 93 }
theorem iX7_days_1 : ∀ w ∈ u_ws RX1 TX1 12, w ∈ wsX7_days := fun w h => List.mem_cons_of_mem _ (List.mem_append_right _ h)
theorem iX7_days_7 : ∀ w ∈ u_ws RX7 TX7 10, w ∈ wsX7_days := fun w h => List.mem_cons_of_mem _ (List.mem_append_left _ (List.mem_append_right _ h))
noncomputable def fX7_days_L11    (M : Mem) : Option (Int32 × Mem) := (bd (fX7_found 0 M) fun r2 M1 => (some (r2, M1)))
set_option maxHeartbeats 4000000 in
set_option maxRecDepth 100000 in
theorem zX7_days_L11 (E : EV) (l : Launch)     : ∀  (M : Mem), ZZ E l RX7 cX7_days 3 (some .int) wsX7_days rmX7_days vI (fX7_days_L11 M) M [(0, .ref (eA E 0))] 11 [] := by
  intro M
  unfold fX7_days_L11
  refine zz_aload_n (npc := 12) 0 rfl rfl dX7_days_11 rfl ?_
  refine zz_iconst (npc := 13) 0 (by decide) dX7_days_12 rfl ?_
  refine zz_callVi (npc := 16) (n := 1) (As := [.int 0]) (by decide) (by rfl) rfl gX7_days_X7_found rfl rfl rfl (by decide +kernel) ⟨Nat.le_of_ble_eq_true rfl, Nat.le_of_ble_eq_true rfl⟩ rfl rfl (Nat.le_of_ble_eq_true rfl) (mtX7_found E l  0 M) dX7_days_13 rfl (fun r2 M1 _ => ?_)
  exact zz_iret dX7_days_16
noncomputable def fX7_days_L41    (M : Mem) : Option (Int32 × Mem) := (bd (fX7_found 4 M) fun r4 M3 => (some (r4, M3)))
set_option maxHeartbeats 4000000 in
set_option maxRecDepth 100000 in
theorem zX7_days_L41 (E : EV) (l : Launch)     : ∀  (M : Mem), ZZ E l RX7 cX7_days 3 (some .int) wsX7_days rmX7_days vI (fX7_days_L41 M) M [(0, .ref (eA E 0))] 41 [] := by
  intro M
  unfold fX7_days_L41
  refine zz_aload_n (npc := 42) 0 rfl rfl dX7_days_41 rfl ?_
  refine zz_iconst (npc := 43) 4 (by decide) dX7_days_42 rfl ?_
  refine zz_callVi (npc := 46) (n := 1) (As := [.int 4]) (by decide) (by rfl) rfl gX7_days_X7_found rfl rfl rfl (by decide +kernel) ⟨Nat.le_of_ble_eq_true rfl, Nat.le_of_ble_eq_true rfl⟩ rfl rfl (Nat.le_of_ble_eq_true rfl) (mtX7_found E l  4 M) dX7_days_43 rfl (fun r4 M3 _ => ?_)
  exact zz_iret dX7_days_46
noncomputable def fX7_days_L49   : Nat → Int32 → Int32 → Mem → Option (Int32 × Mem)
  | 0, _, _, _ => none
  | n + 1, y1, y2, M => (if y1 ≤ y2 then (some (M 1 9, M)) else (bd (fX1_draw 1 M) fun r6 M5 => (wm (wr M5 1 7 (r6 &&& 65535)) fun M7 => (wm (wr M7 1 8 0) fun M8 => (bd (fX1_passHours 1 16 M8) fun _ M9 => (bv (y2 + 1) fun v10 => (fX7_days_L49  n y1 v10 M9)))))))
set_option maxHeartbeats 4000000 in
set_option maxRecDepth 100000 in
theorem zX7_days_L49 (E : EV) (l : Launch)     : ∀ (n : Nat) (y1 : Int32) (y2 : Int32) (M : Mem), ZZ E l RX7 cX7_days 3 (some .int) wsX7_days rmX7_days vI (fX7_days_L49 n y1 y2 M) M [(0, .ref (eA E 0)), (1, .int y1), (2, .int y2)] 49 [] := by
  intro n
  induction n with
  | zero => intros; exact zz_none
  | succ n ih =>
    intro y1 y2 M
    rw [fX7_days_L49]
    refine zz_iload_n (npc := 50) 2 rfl rfl dX7_days_49 rfl ?_
    refine zz_iload_n (npc := 51) 1 rfl rfl dX7_days_50 rfl ?_
    refine zz_icmp_ge (tgt := 94) (npc := 54) dX7_days_51 (by decide) rfl ?_ ?_
    · refine zz_aload_n (npc := 95) 0 rfl rfl dX7_days_94 rfl ?_
      refine zz_getR (npc := 98) (i := 0) (C0 := RX7) (T := TX7) (N := 10) (by decide) (by rfl) rfl (by decide) iX7_days_7 (List.mem_of_getElem? (i := 1) rfl) rfl dX7_days_95 rfl ?_
      refine zz_getI (npc := 101) (i := 9) (C0 := RX1) (T := TX1) (N := 12) (by decide) (by rfl) rfl (by decide) iX7_days_1 (List.mem_of_getElem? (i := 2) rfl) rfl dX7_days_98 rfl ?_
      exact zz_iret dX7_days_101
    · refine zz_aload_n (npc := 55) 0 rfl rfl dX7_days_54 rfl ?_
      refine zz_getR (npc := 58) (i := 0) (C0 := RX7) (T := TX7) (N := 10) (by decide) (by rfl) rfl (by decide) iX7_days_7 (List.mem_of_getElem? (i := 1) rfl) rfl dX7_days_55 rfl ?_
      refine zz_aload_n (npc := 59) 0 rfl rfl dX7_days_58 rfl ?_
      refine zz_getR (npc := 62) (i := 0) (C0 := RX7) (T := TX7) (N := 10) (by decide) (by rfl) rfl (by decide) iX7_days_7 (List.mem_of_getElem? (i := 1) rfl) rfl dX7_days_59 rfl ?_
      refine zz_callVi (npc := 65) (n := 0) (As := []) (by decide) (by rfl) rfl gX7_days_X1_draw rfl rfl rfl (by decide +kernel) ⟨Nat.le_of_ble_eq_true rfl, Nat.le_of_ble_eq_true rfl⟩ rfl rfl (Nat.le_of_ble_eq_true rfl) (mtX1_draw E l 1 ld_c1  M) dX7_days_62 rfl (fun r6 M5 _ => ?_)
      refine zz_ldc (npc := 67) 65535 (List.mem_of_getElem? (i := 5) rfl) dX7_days_65 rfl ?_
      refine zz_iand (npc := 68) dX7_days_67 rfl ?_
      refine zz_putI (npc := 71) (i := 7) (C0 := RX1) (T := TX1) (N := 12) (by decide) (by rfl) rfl (by decide) iX7_days_1 (List.mem_of_getElem? (i := 6) rfl) tyX1_ok nmX1 rfl rfl rfl dX7_days_68 rfl (fun M7 => ?_)
      refine zz_aload_n (npc := 72) 0 rfl rfl dX7_days_71 rfl ?_
      refine zz_getR (npc := 75) (i := 0) (C0 := RX7) (T := TX7) (N := 10) (by decide) (by rfl) rfl (by decide) iX7_days_7 (List.mem_of_getElem? (i := 1) rfl) rfl dX7_days_72 rfl ?_
      refine zz_iconst (npc := 76) 0 (by decide) dX7_days_75 rfl ?_
      refine zz_putI (npc := 79) (i := 8) (C0 := RX1) (T := TX1) (N := 12) (by decide) (by rfl) rfl (by decide) iX7_days_1 (List.mem_of_getElem? (i := 7) rfl) tyX1_ok nmX1 rfl rfl rfl dX7_days_76 rfl (fun M8 => ?_)
      refine zz_aload_n (npc := 80) 0 rfl rfl dX7_days_79 rfl ?_
      refine zz_getR (npc := 83) (i := 0) (C0 := RX7) (T := TX7) (N := 10) (by decide) (by rfl) rfl (by decide) iX7_days_7 (List.mem_of_getElem? (i := 1) rfl) rfl dX7_days_80 rfl ?_
      refine zz_bipush (npc := 85) 16 (by decide) dX7_days_83 rfl ?_
      refine zz_callVv (npc := 88) (n := 1) (As := [.int 16]) (by decide) (by rfl) rfl gX7_days_X1_passHours rfl rfl rfl (by decide +kernel) ⟨Nat.le_of_ble_eq_true rfl, Nat.le_of_ble_eq_true rfl⟩ rfl rfl (Nat.le_of_ble_eq_true rfl) (mtX1_passHours E l 1 ld_c1 16 M8) dX7_days_85 rfl (fun _ M9 _ => ?_)
      refine zz_iincB (npc := 91) (y2 + 1) (lv1 := fun v10 => [(2, .int v10), (0, .ref (eA E 0)), (1, .int y1)]) dX7_days_88 rfl 2 rfl rfl (by decide) (fun _ => rfl) (fun v10 => ?_)
      refine zz_goto (npc := 0) (tgt := 49) dX7_days_91 (by decide) ?_
      refine zz_sub (npc := 0) (lv1 := [(0, .ref (eA E 0)), (1, .int y1), (2, .int v10)]) [1, 2, 0] rfl ?_
      exact ih y1 v10 M9
noncomputable def fX7_days  (x1 : Int32) (M : Mem) : Option (Int32 × Mem) := (if x1 < 1 then (fX7_days_L11  M) else (if x1 ≤ 20 then (if 90000 < (M 1 9) then (fX7_days_L41  M) else (if (M 1 10) ≤ 90000 then (fX7_days_L49  fu x1 0 M) else (fX7_days_L41  M))) else (fX7_days_L11  M)))
set_option maxHeartbeats 4000000 in
set_option maxRecDepth 100000 in
theorem mtX7_days (E : EV) (l : Launch)   (x1 : Int32) (M : Mem) : CT E l yX7_days wsX7_days rmX7_days vI [.ref (eA E 0), .int x1] (fX7_days x1 M) M := by
  refine ct_of (cc := cX7_days) (nL := 3) (ret := (some .int)) (by decide +kernel) rfl (Nat.le_of_ble_eq_true rfl) ?_
  show ZZ E l RX7 cX7_days 3 (some .int) wsX7_days rmX7_days vI (fX7_days x1 M) M [(0, .ref (eA E 0)), (1, .int x1)] 0 []
  unfold fX7_days
  refine zz_iload_n (npc := 1) 1 rfl rfl dX7_days_0 rfl ?_
  refine zz_iconst (npc := 2) 1 (by decide) dX7_days_1 rfl ?_
  refine zz_icmp_lt (tgt := 11) (npc := 5) dX7_days_2 (by decide) rfl ?_ ?_
  · refine zz_sub (npc := 0) (lv1 := [(0, .ref (eA E 0))]) [0] rfl ?_
    exact zX7_days_L11 E l  M
  · refine zz_iload_n (npc := 6) 1 rfl rfl dX7_days_5 rfl ?_
    refine zz_bipush (npc := 8) 20 (by decide) dX7_days_6 rfl ?_
    refine zz_icmp_le (tgt := 17) (npc := 11) dX7_days_8 (by decide) rfl ?_ ?_
    · refine zz_aload_n (npc := 18) 0 rfl rfl dX7_days_17 rfl ?_
      refine zz_getR (npc := 21) (i := 0) (C0 := RX7) (T := TX7) (N := 10) (by decide) (by rfl) rfl (by decide) iX7_days_7 (List.mem_of_getElem? (i := 1) rfl) rfl dX7_days_18 rfl ?_
      refine zz_getI (npc := 24) (i := 9) (C0 := RX1) (T := TX1) (N := 12) (by decide) (by rfl) rfl (by decide) iX7_days_1 (List.mem_of_getElem? (i := 2) rfl) rfl dX7_days_21 rfl ?_
      refine zz_ldc (npc := 26) 90000 (List.mem_of_getElem? (i := 3) rfl) dX7_days_24 rfl ?_
      refine zz_icmp_gt (tgt := 41) (npc := 29) dX7_days_26 (by decide) rfl ?_ ?_
      · refine zz_sub (npc := 0) (lv1 := [(0, .ref (eA E 0))]) [0] rfl ?_
        exact zX7_days_L41 E l  M
      · refine zz_aload_n (npc := 30) 0 rfl rfl dX7_days_29 rfl ?_
        refine zz_getR (npc := 33) (i := 0) (C0 := RX7) (T := TX7) (N := 10) (by decide) (by rfl) rfl (by decide) iX7_days_7 (List.mem_of_getElem? (i := 1) rfl) rfl dX7_days_30 rfl ?_
        refine zz_getI (npc := 36) (i := 10) (C0 := RX1) (T := TX1) (N := 12) (by decide) (by rfl) rfl (by decide) iX7_days_1 (List.mem_of_getElem? (i := 4) rfl) rfl dX7_days_33 rfl ?_
        refine zz_ldc (npc := 38) 90000 (List.mem_of_getElem? (i := 3) rfl) dX7_days_36 rfl ?_
        refine zz_icmp_le (tgt := 47) (npc := 41) dX7_days_38 (by decide) rfl ?_ ?_
        · refine zz_iconst (npc := 48) 0 (by decide) dX7_days_47 rfl ?_
          refine zz_istore_n (npc := 49) (lv1 := [(2, .int 0), (0, .ref (eA E 0)), (1, .int x1)]) rfl dX7_days_48 rfl (by decide) rfl ?_
          refine zz_sub (npc := 0) (lv1 := [(0, .ref (eA E 0)), (1, .int x1), (2, .int 0)]) [1, 2, 0] rfl ?_
          exact zX7_days_L49 E l  fu x1 0 M
        · refine zz_sub (npc := 0) (lv1 := [(0, .ref (eA E 0))]) [0] rfl ?_
          exact zX7_days_L41 E l  M
    · refine zz_sub (npc := 0) (lv1 := [(0, .ref (eA E 0))]) [0] rfl ?_
      exact zX7_days_L11 E l  M
abbrev rmX7_seed : Room := { frames := 0, cells := 0, slots := 0, locals := 0 }
theorem iX7_seed_1 : ∀ w ∈ u_ws RX1 TX1 12, w ∈ wsX7_seed := fun w h => List.mem_cons_of_mem _ (List.mem_append_right _ h)
theorem iX7_seed_7 : ∀ w ∈ u_ws RX7 TX7 10, w ∈ wsX7_seed := fun w h => List.mem_cons_of_mem _ (List.mem_append_left _ (List.mem_append_right _ h))
noncomputable def fX7_seed  (x1 : Int32) (M : Mem) : Option (Int32 × Mem) := (bv (M 1 11) fun v1 => (wm (wr M 1 11 x1) fun M2 => (some (v1, M2))))
set_option maxHeartbeats 4000000 in
set_option maxRecDepth 100000 in
theorem mtX7_seed (E : EV) (l : Launch)   (x1 : Int32) (M : Mem) : CT E l yX7_seed wsX7_seed rmX7_seed vI [.ref (eA E 0), .int x1] (fX7_seed x1 M) M := by
  refine ct_of (cc := cX7_seed) (nL := 3) (ret := (some .int)) (by decide +kernel) rfl (Nat.le_of_ble_eq_true rfl) ?_
  show ZZ E l RX7 cX7_seed 3 (some .int) wsX7_seed rmX7_seed vI (fX7_seed x1 M) M [(0, .ref (eA E 0)), (1, .int x1)] 0 []
  unfold fX7_seed
  refine zz_aload_n (npc := 1) 0 rfl rfl dX7_seed_0 rfl ?_
  refine zz_getR (npc := 4) (i := 0) (C0 := RX7) (T := TX7) (N := 10) (by decide) (by rfl) rfl (by decide) iX7_seed_7 (List.mem_of_getElem? (i := 1) rfl) rfl dX7_seed_1 rfl ?_
  refine zz_getI (npc := 7) (i := 11) (C0 := RX1) (T := TX1) (N := 12) (by decide) (by rfl) rfl (by decide) iX7_seed_1 (List.mem_of_getElem? (i := 2) rfl) rfl dX7_seed_4 rfl ?_
  refine zz_istore_nB (npc := 8) (lv1 := fun v1 => [(2, .int v1), (0, .ref (eA E 0)), (1, .int x1)]) rfl dX7_seed_7 rfl (by decide) (fun _ => rfl) (fun v1 => ?_)
  refine zz_aload_n (npc := 9) 1 rfl rfl dX7_seed_8 rfl ?_
  refine zz_getR (npc := 12) (i := 0) (C0 := RX7) (T := TX7) (N := 10) (by decide) (by rfl) rfl (by decide) iX7_seed_7 (List.mem_of_getElem? (i := 1) rfl) rfl dX7_seed_9 rfl ?_
  refine zz_iload_n (npc := 13) 2 rfl rfl dX7_seed_12 rfl ?_
  refine zz_putI (npc := 16) (i := 11) (C0 := RX1) (T := TX1) (N := 12) (by decide) (by rfl) rfl (by decide) iX7_seed_1 (List.mem_of_getElem? (i := 2) rfl) tyX1_ok nmX1 rfl rfl rfl dX7_seed_13 rfl (fun M2 => ?_)
  refine zz_iload_n (npc := 17) 0 rfl rfl dX7_seed_16 rfl ?_
  exact zz_iret dX7_seed_17
abbrev rmX7_feed : Room := { frames := 1, cells := 0, slots := 0, locals := 21 }
theorem iX7_feed_6 : ∀ w ∈ u_ws RX6 TX6 2, w ∈ wsX7_feed := fun w h => List.mem_cons_of_mem _ (List.mem_append_right _ h)
theorem iX7_feed_7 : ∀ w ∈ u_ws RX7 TX7 10, w ∈ wsX7_feed := fun w h => List.mem_cons_of_mem _ (List.mem_append_left _ (List.mem_append_right _ h))
noncomputable def fX7_feed_L10    (M : Mem) : Option (Int32 × Mem) := (bd (fX7_found 0 M) fun r5 M4 => (some (r5, M4)))
set_option maxHeartbeats 4000000 in
set_option maxRecDepth 100000 in
theorem zX7_feed_L10 (E : EV) (l : Launch)     : ∀  (M : Mem), ZZ E l RX7 cX7_feed 4 (some .int) wsX7_feed rmX7_feed vI (fX7_feed_L10 M) M [(0, .ref (eA E 0))] 10 [] := by
  intro M
  unfold fX7_feed_L10
  refine zz_aload_n (npc := 11) 0 rfl rfl dX7_feed_10 rfl ?_
  refine zz_iconst (npc := 12) 0 (by decide) dX7_feed_11 rfl ?_
  refine zz_callVi (npc := 15) (n := 1) (As := [.int 0]) (by decide) (by rfl) rfl gX7_feed_X7_found rfl rfl rfl (by decide +kernel) ⟨Nat.le_of_ble_eq_true rfl, Nat.le_of_ble_eq_true rfl⟩ rfl rfl (Nat.le_of_ble_eq_true rfl) (mtX7_found E l  0 M) dX7_feed_12 rfl (fun r5 M4 _ => ?_)
  exact zz_iret dX7_feed_15
noncomputable def fX7_feed_L40   : Nat → Int32 → Int32 → Mem → Option (Int32 × Mem)
  | 0, _, _, _ => none
  | n + 1, y1, y3, M => (if y3 < 0 then (some (M 34 1, M)) else (bd (fX6_append (ush y1 (8 * y3)) M) fun _ M6 => (bv (y3 + (-1)) fun v7 => (fX7_feed_L40  n y1 v7 M6))))
set_option maxHeartbeats 4000000 in
set_option maxRecDepth 100000 in
theorem zX7_feed_L40 (E : EV) (l : Launch)     : ∀ (n : Nat) (y1 : Int32) (y3 : Int32) (M : Mem), ZZ E l RX7 cX7_feed 4 (some .int) wsX7_feed rmX7_feed vI (fX7_feed_L40 n y1 y3 M) M [(0, .ref (eA E 0)), (1, .int y1), (3, .int y3)] 40 [] := by
  intro n
  induction n with
  | zero => intros; exact zz_none
  | succ n ih =>
    intro y1 y3 M
    rw [fX7_feed_L40]
    refine zz_iload_n (npc := 41) 2 rfl rfl dX7_feed_40 rfl ?_
    refine zz_if_lt (tgt := 63) (npc := 44) dX7_feed_41 (by decide) rfl ?_ ?_
    · refine zz_aload_n (npc := 64) 0 rfl rfl dX7_feed_63 rfl ?_
      refine zz_getR (npc := 67) (i := 6) (C0 := RX7) (T := TX7) (N := 10) (by decide) (by rfl) rfl (by decide) iX7_feed_7 (List.mem_of_getElem? (i := 1) rfl) rfl dX7_feed_64 rfl ?_
      refine zz_getI (npc := 70) (i := 1) (C0 := RX6) (T := TX6) (N := 2) (by decide) (by rfl) rfl (by decide) iX7_feed_6 (List.mem_of_getElem? (i := 2) rfl) rfl dX7_feed_67 rfl ?_
      exact zz_iret dX7_feed_70
    · refine zz_aload_n (npc := 45) 0 rfl rfl dX7_feed_44 rfl ?_
      refine zz_getR (npc := 48) (i := 6) (C0 := RX7) (T := TX7) (N := 10) (by decide) (by rfl) rfl (by decide) iX7_feed_7 (List.mem_of_getElem? (i := 1) rfl) rfl dX7_feed_45 rfl ?_
      refine zz_iload_n (npc := 49) 1 rfl rfl dX7_feed_48 rfl ?_
      refine zz_bipush (npc := 51) 8 (by decide) dX7_feed_49 rfl ?_
      refine zz_iload_n (npc := 52) 2 rfl rfl dX7_feed_51 rfl ?_
      refine zz_imul (npc := 53) dX7_feed_52 rfl ?_
      refine zz_iushr (npc := 54) dX7_feed_53 rfl ?_
      refine zz_callVv (npc := 57) (n := 1) (As := [.int (ush y1 (8 * y3))]) (by decide) (by rfl) rfl gX7_feed_X6_append rfl rfl rfl (by decide +kernel) ⟨Nat.le_of_ble_eq_true rfl, Nat.le_of_ble_eq_true rfl⟩ rfl rfl (Nat.le_of_ble_eq_true rfl) (mtX6_append E l  (ush y1 (8 * y3)) M) dX7_feed_54 rfl (fun _ M6 _ => ?_)
      refine zz_iincB (npc := 60) (y3 + (-1)) (lv1 := fun v7 => [(3, .int v7), (0, .ref (eA E 0)), (1, .int y1)]) dX7_feed_57 rfl 2 rfl rfl (by decide) (fun _ => rfl) (fun v7 => ?_)
      refine zz_goto (npc := 0) (tgt := 40) dX7_feed_60 (by decide) ?_
      refine zz_sub (npc := 0) (lv1 := [(0, .ref (eA E 0)), (1, .int y1), (3, .int v7)]) [1, 2, 0] rfl ?_
      exact ih y1 v7 M6
noncomputable def fX7_feed  (x1 : Int32) (x2 : Int32) (M : Mem) : Option (Int32 × Mem) := (if x2 < 1 then (fX7_feed_L10  M) else (if x2 ≤ 4 then (if x2 ≤ (120 - (M 34 1)) then (bv (x2 - 1) fun v1 => (fX7_feed_L40  fu x1 v1 M)) else (bd (fX7_found 1 M) fun r3 M2 => (some (r3, M2)))) else (fX7_feed_L10  M)))
set_option maxHeartbeats 4000000 in
set_option maxRecDepth 100000 in
theorem mtX7_feed (E : EV) (l : Launch)   (x1 : Int32) (x2 : Int32) (M : Mem) : CT E l yX7_feed wsX7_feed rmX7_feed vI [.ref (eA E 0), .int x1, .int x2] (fX7_feed x1 x2 M) M := by
  refine ct_of (cc := cX7_feed) (nL := 4) (ret := (some .int)) (by decide +kernel) rfl (Nat.le_of_ble_eq_true rfl) ?_
  show ZZ E l RX7 cX7_feed 4 (some .int) wsX7_feed rmX7_feed vI (fX7_feed x1 x2 M) M [(0, .ref (eA E 0)), (1, .int x1), (2, .int x2)] 0 []
  unfold fX7_feed
  refine zz_iload_n (npc := 1) 2 rfl rfl dX7_feed_0 rfl ?_
  refine zz_iconst (npc := 2) 1 (by decide) dX7_feed_1 rfl ?_
  refine zz_icmp_lt (tgt := 10) (npc := 5) dX7_feed_2 (by decide) rfl ?_ ?_
  · refine zz_sub (npc := 0) (lv1 := [(0, .ref (eA E 0))]) [0] rfl ?_
    exact zX7_feed_L10 E l  M
  · refine zz_iload_n (npc := 6) 2 rfl rfl dX7_feed_5 rfl ?_
    refine zz_iconst (npc := 7) 4 (by decide) dX7_feed_6 rfl ?_
    refine zz_icmp_le (tgt := 16) (npc := 10) dX7_feed_7 (by decide) rfl ?_ ?_
    · refine zz_iload_n (npc := 17) 2 rfl rfl dX7_feed_16 rfl ?_
      refine zz_bipush (npc := 19) 120 (by decide) dX7_feed_17 rfl ?_
      refine zz_aload_n (npc := 20) 0 rfl rfl dX7_feed_19 rfl ?_
      refine zz_getR (npc := 23) (i := 6) (C0 := RX7) (T := TX7) (N := 10) (by decide) (by rfl) rfl (by decide) iX7_feed_7 (List.mem_of_getElem? (i := 1) rfl) rfl dX7_feed_20 rfl ?_
      refine zz_getI (npc := 26) (i := 1) (C0 := RX6) (T := TX6) (N := 2) (by decide) (by rfl) rfl (by decide) iX7_feed_6 (List.mem_of_getElem? (i := 2) rfl) rfl dX7_feed_23 rfl ?_
      refine zz_isub (npc := 27) dX7_feed_26 rfl ?_
      refine zz_icmp_le (tgt := 36) (npc := 30) dX7_feed_27 (by decide) rfl ?_ ?_
      · refine zz_iload_n (npc := 37) 2 rfl rfl dX7_feed_36 rfl ?_
        refine zz_iconst (npc := 38) 1 (by decide) dX7_feed_37 rfl ?_
        refine zz_isub (npc := 39) dX7_feed_38 rfl ?_
        refine zz_istore_nB (npc := 40) (lv1 := fun v1 => [(3, .int v1), (0, .ref (eA E 0)), (1, .int x1), (2, .int x2)]) rfl dX7_feed_39 rfl (by decide) (fun _ => rfl) (fun v1 => ?_)
        refine zz_sub (npc := 0) (lv1 := [(0, .ref (eA E 0)), (1, .int x1), (3, .int v1)]) [1, 2, 0] rfl ?_
        exact zX7_feed_L40 E l  fu x1 v1 M
      · refine zz_aload_n (npc := 31) 0 rfl rfl dX7_feed_30 rfl ?_
        refine zz_iconst (npc := 32) 1 (by decide) dX7_feed_31 rfl ?_
        refine zz_callVi (npc := 35) (n := 1) (As := [.int 1]) (by decide) (by rfl) rfl gX7_feed_X7_found rfl rfl rfl (by decide +kernel) ⟨Nat.le_of_ble_eq_true rfl, Nat.le_of_ble_eq_true rfl⟩ rfl rfl (Nat.le_of_ble_eq_true rfl) (mtX7_found E l  1 M) dX7_feed_32 rfl (fun r3 M2 _ => ?_)
        exact zz_iret dX7_feed_35
    · refine zz_sub (npc := 0) (lv1 := [(0, .ref (eA E 0))]) [0] rfl ?_
      exact zX7_feed_L10 E l  M
abbrev rmX7_wipe : Room := { frames := 0, cells := 0, slots := 0, locals := 0 }
theorem iX7_wipe_6 : ∀ w ∈ u_ws RX6 TX6 2, w ∈ wsX7_wipe := fun w h => List.mem_cons_of_mem _ (List.mem_append_right _ h)
theorem iX7_wipe_7 : ∀ w ∈ u_ws RX7 TX7 10, w ∈ wsX7_wipe := fun w h => List.mem_cons_of_mem _ (List.mem_append_left _ (List.mem_append_right _ h))
noncomputable def fX7_wipe   (M : Mem) : Option (Int32 × Mem) := (bv (M 34 1) fun v1 => (wm (wr M 34 1 0) fun M2 => (some (v1, M2))))
set_option maxHeartbeats 4000000 in
set_option maxRecDepth 100000 in
theorem mtX7_wipe (E : EV) (l : Launch)    (M : Mem) : CT E l yX7_wipe wsX7_wipe rmX7_wipe vI [.ref (eA E 0)] (fX7_wipe  M) M := by
  refine ct_of (cc := cX7_wipe) (nL := 2) (ret := (some .int)) (by decide +kernel) rfl (Nat.le_of_ble_eq_true rfl) ?_
  show ZZ E l RX7 cX7_wipe 2 (some .int) wsX7_wipe rmX7_wipe vI (fX7_wipe  M) M [(0, .ref (eA E 0))] 0 []
  unfold fX7_wipe
  refine zz_aload_n (npc := 1) 0 rfl rfl dX7_wipe_0 rfl ?_
  refine zz_getR (npc := 4) (i := 6) (C0 := RX7) (T := TX7) (N := 10) (by decide) (by rfl) rfl (by decide) iX7_wipe_7 (List.mem_of_getElem? (i := 1) rfl) rfl dX7_wipe_1 rfl ?_
  refine zz_getI (npc := 7) (i := 1) (C0 := RX6) (T := TX6) (N := 2) (by decide) (by rfl) rfl (by decide) iX7_wipe_6 (List.mem_of_getElem? (i := 2) rfl) rfl dX7_wipe_4 rfl ?_
  refine zz_istore_nB (npc := 8) (lv1 := fun v1 => [(1, .int v1), (0, .ref (eA E 0))]) rfl dX7_wipe_7 rfl (by decide) (fun _ => rfl) (fun v1 => ?_)
  refine zz_aload_n (npc := 9) 1 rfl rfl dX7_wipe_8 rfl ?_
  refine zz_getR (npc := 12) (i := 6) (C0 := RX7) (T := TX7) (N := 10) (by decide) (by rfl) rfl (by decide) iX7_wipe_7 (List.mem_of_getElem? (i := 1) rfl) rfl dX7_wipe_9 rfl ?_
  refine zz_iconst (npc := 13) 0 (by decide) dX7_wipe_12 rfl ?_
  refine zz_putI (npc := 16) (i := 1) (C0 := RX6) (T := TX6) (N := 2) (by decide) (by rfl) rfl (by decide) iX7_wipe_6 (List.mem_of_getElem? (i := 2) rfl) tyX6_ok nmX6 rfl rfl rfl dX7_wipe_13 rfl (fun M2 => ?_)
  refine zz_iload_n (npc := 17) 0 rfl rfl dX7_wipe_16 rfl ?_
  exact zz_iret dX7_wipe_17
abbrev rmX7_text : Room := { frames := 9, cells := 0, slots := 0, locals := 195 }
theorem iX7_text_6 : ∀ w ∈ u_ws RX6 TX6 2, w ∈ wsX7_text := fun w h => List.mem_cons_of_mem _ (List.mem_append_left _ (List.mem_append_left _ (List.mem_append_right _ h)))
theorem iX7_text_7 : ∀ w ∈ u_ws RX7 TX7 10, w ∈ wsX7_text := fun w h => List.mem_cons_of_mem _ (List.mem_append_left _ (List.mem_append_left _ (List.mem_append_left _ (List.mem_append_right _ h))))
noncomputable def fX7_text   (M : Mem) : Option (Int32 × Mem) := (bd (fX3_read 1 M) fun r2 M1 => (wm (wr M1 34 1 0) fun M3 => (some (r2, M3))))
set_option maxHeartbeats 4000000 in
set_option maxRecDepth 100000 in
theorem mtX7_text (E : EV) (l : Launch)    (M : Mem) : CT E l yX7_text wsX7_text rmX7_text vI [.ref (eA E 0)] (fX7_text  M) M := by
  refine ct_of (cc := cX7_text) (nL := 2) (ret := (some .int)) (by decide +kernel) rfl (Nat.le_of_ble_eq_true rfl) ?_
  show ZZ E l RX7 cX7_text 2 (some .int) wsX7_text rmX7_text vI (fX7_text  M) M [(0, .ref (eA E 0))] 0 []
  unfold fX7_text
  refine zz_aload_n (npc := 1) 0 rfl rfl dX7_text_0 rfl ?_
  refine zz_getR (npc := 4) (i := 5) (C0 := RX7) (T := TX7) (N := 10) (by decide) (by rfl) rfl (by decide) iX7_text_7 (List.mem_of_getElem? (i := 1) rfl) rfl dX7_text_1 rfl ?_
  refine zz_aload_n (npc := 5) 0 rfl rfl dX7_text_4 rfl ?_
  refine zz_getR (npc := 8) (i := 0) (C0 := RX7) (T := TX7) (N := 10) (by decide) (by rfl) rfl (by decide) iX7_text_7 (List.mem_of_getElem? (i := 2) rfl) rfl dX7_text_5 rfl ?_
  refine zz_callVi (npc := 11) (n := 1) (As := [.ref (eA E 1)]) (by decide) (by rfl) rfl gX7_text_X3_read rfl rfl rfl (by decide +kernel) ⟨Nat.le_of_ble_eq_true rfl, Nat.le_of_ble_eq_true rfl⟩ rfl rfl (Nat.le_of_ble_eq_true rfl) (mtX3_read E l 1 ld_c1  M) dX7_text_8 rfl (fun r2 M1 _ => ?_)
  refine zz_istore_n (npc := 12) (lv1 := [(1, .int r2), (0, .ref (eA E 0))]) rfl dX7_text_11 rfl (by decide) rfl ?_
  refine zz_aload_n (npc := 13) 1 rfl rfl dX7_text_12 rfl ?_
  refine zz_getR (npc := 16) (i := 6) (C0 := RX7) (T := TX7) (N := 10) (by decide) (by rfl) rfl (by decide) iX7_text_7 (List.mem_of_getElem? (i := 3) rfl) rfl dX7_text_13 rfl ?_
  refine zz_iconst (npc := 17) 0 (by decide) dX7_text_16 rfl ?_
  refine zz_putI (npc := 20) (i := 1) (C0 := RX6) (T := TX6) (N := 2) (by decide) (by rfl) rfl (by decide) iX7_text_6 (List.mem_of_getElem? (i := 4) rfl) tyX6_ok nmX6 rfl rfl rfl dX7_text_17 rfl (fun M3 => ?_)
  refine zz_iload_n (npc := 21) 0 rfl rfl dX7_text_20 rfl ?_
  exact zz_iret dX7_text_21
abbrev rmX7_hold : Room := { frames := 1, cells := 0, slots := 0, locals := 21 }
theorem iX7_hold_1 : ∀ w ∈ u_ws RX1 TX1 12, w ∈ wsX7_hold := fun w h => List.mem_cons_of_mem _ (List.mem_append_right _ h)
theorem iX7_hold_7 : ∀ w ∈ u_ws RX7 TX7 10, w ∈ wsX7_hold := fun w h => List.mem_cons_of_mem _ (List.mem_append_left _ (List.mem_append_right _ h))
noncomputable def fX7_hold_L25    (M : Mem) : Option (Int32 × Mem) := (bd (fX7_found 0 M) fun r6 M5 => (some (r6, M5)))
set_option maxHeartbeats 4000000 in
set_option maxRecDepth 100000 in
theorem zX7_hold_L25 (E : EV) (l : Launch)     : ∀  (M : Mem), ZZ E l RX7 cX7_hold 3 (some .int) wsX7_hold rmX7_hold vI (fX7_hold_L25 M) M [(0, .ref (eA E 0))] 25 [] := by
  intro M
  unfold fX7_hold_L25
  refine zz_aload_n (npc := 26) 0 rfl rfl dX7_hold_25 rfl ?_
  refine zz_iconst (npc := 27) 0 (by decide) dX7_hold_26 rfl ?_
  refine zz_callVi (npc := 30) (n := 1) (As := [.int 0]) (by decide) (by rfl) rfl gX7_hold_X7_found rfl rfl rfl (by decide +kernel) ⟨Nat.le_of_ble_eq_true rfl, Nat.le_of_ble_eq_true rfl⟩ rfl rfl (Nat.le_of_ble_eq_true rfl) (mtX7_found E l  0 M) dX7_hold_27 rfl (fun r6 M5 _ => ?_)
  exact zz_iret dX7_hold_30
noncomputable def fX7_hold_L31   (y1 : Int32) (y2 : Int32) (M : Mem) : Option (Int32 × Mem) := (ck (inb y1 10) (wm (wr M 7 (ix y1) y2) fun M7 => (some (1, M7))))
set_option maxHeartbeats 4000000 in
set_option maxRecDepth 100000 in
theorem zX7_hold_L31 (E : EV) (l : Launch)     : ∀ (y1 : Int32) (y2 : Int32) (M : Mem), ZZ E l RX7 cX7_hold 3 (some .int) wsX7_hold rmX7_hold vI (fX7_hold_L31 y1 y2 M) M [(0, .ref (eA E 0)), (1, .int y1), (2, .int y2)] 31 [] := by
  intro y1 y2 M
  unfold fX7_hold_L31
  refine zz_aload_n (npc := 32) 0 rfl rfl dX7_hold_31 rfl ?_
  refine zz_getR (npc := 35) (i := 0) (C0 := RX7) (T := TX7) (N := 10) (by decide) (by rfl) rfl (by decide) iX7_hold_7 (List.mem_of_getElem? (i := 1) rfl) rfl dX7_hold_32 rfl ?_
  refine zz_getR (npc := 38) (i := 5) (C0 := RX1) (T := TX1) (N := 12) (by decide) (by rfl) rfl (by decide) iX7_hold_1 (List.mem_of_getElem? (i := 2) rfl) rfl dX7_hold_35 rfl ?_
  refine zz_iload_n (npc := 39) 1 rfl rfl dX7_hold_38 rfl ?_
  refine zz_iload_n (npc := 40) 2 rfl rfl dX7_hold_39 rfl ?_
  refine zz_iast (npc := 41) (by decide) (by rfl) dX7_hold_40 rfl (fun M7 => ?_)
  refine zz_iconst (npc := 42) 1 (by decide) dX7_hold_41 rfl ?_
  exact zz_iret dX7_hold_42
noncomputable def fX7_hold  (x1 : Int32) (x2 : Int32) (M : Mem) : Option (Int32 × Mem) := (bd (fX7_isWithin x1 9 M) fun r2 M1 => (if r2 = 0 then (fX7_hold_L25  M1) else (if x2 = (-1) then (fX7_hold_L31  x1 x2 M1) else (bd (fX1_isPerson 1 x2 M1) fun r4 M3 => (if r4 = 0 then (fX7_hold_L25  M3) else (fX7_hold_L31  x1 x2 M3))))))
set_option maxHeartbeats 4000000 in
set_option maxRecDepth 100000 in
theorem mtX7_hold (E : EV) (l : Launch)   (x1 : Int32) (x2 : Int32) (M : Mem) : CT E l yX7_hold wsX7_hold rmX7_hold vI [.ref (eA E 0), .int x1, .int x2] (fX7_hold x1 x2 M) M := by
  refine ct_of (cc := cX7_hold) (nL := 3) (ret := (some .int)) (by decide +kernel) rfl (Nat.le_of_ble_eq_true rfl) ?_
  show ZZ E l RX7 cX7_hold 3 (some .int) wsX7_hold rmX7_hold vI (fX7_hold x1 x2 M) M [(0, .ref (eA E 0)), (1, .int x1), (2, .int x2)] 0 []
  unfold fX7_hold
  refine zz_iload_n (npc := 1) 1 rfl rfl dX7_hold_0 rfl ?_
  refine zz_bipush (npc := 3) 9 (by decide) dX7_hold_1 rfl ?_
  refine zz_callSi (npc := 6) (n := 2) (As := [.int x1, .int 9]) gX7_hold_X7_isWithin rfl rfl rfl (by decide +kernel) ⟨Nat.le_of_ble_eq_true rfl, Nat.le_of_ble_eq_true rfl⟩ rfl rfl (Nat.le_of_ble_eq_true rfl) (mtX7_isWithin E l  x1 9 M) dX7_hold_3 rfl (fun r2 M1 _ => ?_)
  refine zz_if_eq (tgt := 25) (npc := 9) dX7_hold_6 (by decide) rfl ?_ ?_
  · refine zz_sub (npc := 0) (lv1 := [(0, .ref (eA E 0))]) [0] rfl ?_
    exact zX7_hold_L25 E l  M1
  · refine zz_iload_n (npc := 10) 2 rfl rfl dX7_hold_9 rfl ?_
    refine zz_iconst (npc := 11) (-1) (by decide) dX7_hold_10 rfl ?_
    refine zz_icmp_eq (tgt := 31) (npc := 14) dX7_hold_11 (by decide) rfl ?_ ?_
    · exact zX7_hold_L31 E l  x1 x2 M1
    · refine zz_aload_n (npc := 15) 0 rfl rfl dX7_hold_14 rfl ?_
      refine zz_getR (npc := 18) (i := 0) (C0 := RX7) (T := TX7) (N := 10) (by decide) (by rfl) rfl (by decide) iX7_hold_7 (List.mem_of_getElem? (i := 1) rfl) rfl dX7_hold_15 rfl ?_
      refine zz_iload_n (npc := 19) 2 rfl rfl dX7_hold_18 rfl ?_
      refine zz_callVi (npc := 22) (n := 1) (As := [.int x2]) (by decide) (by rfl) rfl gX7_hold_X1_isPerson rfl rfl rfl (by decide +kernel) ⟨Nat.le_of_ble_eq_true rfl, Nat.le_of_ble_eq_true rfl⟩ rfl rfl (Nat.le_of_ble_eq_true rfl) (mtX1_isPerson E l 1 ld_c1 x2 M1) dX7_hold_19 rfl (fun r4 M3 _ => ?_)
      refine zz_if_ne (tgt := 31) (npc := 25) dX7_hold_22 (by decide) rfl ?_ ?_
      · exact zX7_hold_L31 E l  x1 x2 M3
      · refine zz_sub (npc := 0) (lv1 := [(0, .ref (eA E 0))]) [0] rfl ?_
        exact zX7_hold_L25 E l  M3
abbrev rmX7_as : Room := { frames := 2, cells := 0, slots := 0, locals := 45 }
theorem iX7_as_1 : ∀ w ∈ u_ws RX1 TX1 12, w ∈ wsX7_as := fun w h => List.mem_cons_of_mem _ (List.mem_append_right _ h)
theorem iX7_as_7 : ∀ w ∈ u_ws RX7 TX7 10, w ∈ wsX7_as := fun w h => List.mem_cons_of_mem _ (List.mem_append_left _ (List.mem_append_right _ h))
noncomputable def fX7_as_L18    (M : Mem) : Option (Int32 × Mem) := (bd (fX7_found 0 M) fun r13 M12 => (some (r13, M12)))
set_option maxHeartbeats 4000000 in
set_option maxRecDepth 100000 in
theorem zX7_as_L18 (E : EV) (l : Launch)     : ∀  (M : Mem), ZZ E l RX7 cX7_as 4 (some .int) wsX7_as rmX7_as vI (fX7_as_L18 M) M [(0, .ref (eA E 0))] 18 [] := by
  intro M
  unfold fX7_as_L18
  refine zz_aload_n (npc := 19) 0 rfl rfl dX7_as_18 rfl ?_
  refine zz_iconst (npc := 20) 0 (by decide) dX7_as_19 rfl ?_
  refine zz_callVi (npc := 23) (n := 1) (As := [.int 0]) (by decide) (by rfl) rfl gX7_as_X7_found rfl rfl rfl (by decide +kernel) ⟨Nat.le_of_ble_eq_true rfl, Nat.le_of_ble_eq_true rfl⟩ rfl rfl (Nat.le_of_ble_eq_true rfl) (mtX7_found E l  0 M) dX7_as_20 rfl (fun r13 M12 _ => ?_)
  exact zz_iret dX7_as_23
noncomputable def fX7_as  (x1 : Int32) (x2 : Int32) (M : Mem) : Option (Int32 × Mem) := (bd (fX7_isWithin x1 9 M) fun r2 M1 => (if r2 = 0 then (fX7_as_L18  M1) else (bd (fX7_isWithin x2 6 M1) fun r4 M3 => (if r4 = 0 then (fX7_as_L18  M3) else (ck (inb x1 10) (bv (M3 7 (ix x1)) fun v5 => (if v5 = (-1) then (bd (fX7_found 5 M3) fun r11 M10 => (some (r11, M10))) else (bd (fX1_isOfKind 1 v5 x2 M3) fun r7 M6 => (if r7 = 0 then (bd (fX7_found 2 M6) fun r9 M8 => (some (r9, M8))) else (some (v5, M6)))))))))))
set_option maxHeartbeats 4000000 in
set_option maxRecDepth 100000 in
theorem mtX7_as (E : EV) (l : Launch)   (x1 : Int32) (x2 : Int32) (M : Mem) : CT E l yX7_as wsX7_as rmX7_as vI [.ref (eA E 0), .int x1, .int x2] (fX7_as x1 x2 M) M := by
  refine ct_of (cc := cX7_as) (nL := 4) (ret := (some .int)) (by decide +kernel) rfl (Nat.le_of_ble_eq_true rfl) ?_
  show ZZ E l RX7 cX7_as 4 (some .int) wsX7_as rmX7_as vI (fX7_as x1 x2 M) M [(0, .ref (eA E 0)), (1, .int x1), (2, .int x2)] 0 []
  unfold fX7_as
  refine zz_iload_n (npc := 1) 1 rfl rfl dX7_as_0 rfl ?_
  refine zz_bipush (npc := 3) 9 (by decide) dX7_as_1 rfl ?_
  refine zz_callSi (npc := 6) (n := 2) (As := [.int x1, .int 9]) gX7_as_X7_isWithin rfl rfl rfl (by decide +kernel) ⟨Nat.le_of_ble_eq_true rfl, Nat.le_of_ble_eq_true rfl⟩ rfl rfl (Nat.le_of_ble_eq_true rfl) (mtX7_isWithin E l  x1 9 M) dX7_as_3 rfl (fun r2 M1 _ => ?_)
  refine zz_if_eq (tgt := 18) (npc := 9) dX7_as_6 (by decide) rfl ?_ ?_
  · refine zz_sub (npc := 0) (lv1 := [(0, .ref (eA E 0))]) [0] rfl ?_
    exact zX7_as_L18 E l  M1
  · refine zz_iload_n (npc := 10) 2 rfl rfl dX7_as_9 rfl ?_
    refine zz_bipush (npc := 12) 6 (by decide) dX7_as_10 rfl ?_
    refine zz_callSi (npc := 15) (n := 2) (As := [.int x2, .int 6]) gX7_as_X7_isWithin rfl rfl rfl (by decide +kernel) ⟨Nat.le_of_ble_eq_true rfl, Nat.le_of_ble_eq_true rfl⟩ rfl rfl (Nat.le_of_ble_eq_true rfl) (mtX7_isWithin E l  x2 6 M1) dX7_as_12 rfl (fun r4 M3 _ => ?_)
    refine zz_if_ne (tgt := 24) (npc := 18) dX7_as_15 (by decide) rfl ?_ ?_
    · refine zz_aload_n (npc := 25) 0 rfl rfl dX7_as_24 rfl ?_
      refine zz_getR (npc := 28) (i := 0) (C0 := RX7) (T := TX7) (N := 10) (by decide) (by rfl) rfl (by decide) iX7_as_7 (List.mem_of_getElem? (i := 1) rfl) rfl dX7_as_25 rfl ?_
      refine zz_getR (npc := 31) (i := 5) (C0 := RX1) (T := TX1) (N := 12) (by decide) (by rfl) rfl (by decide) iX7_as_1 (List.mem_of_getElem? (i := 2) rfl) rfl dX7_as_28 rfl ?_
      refine zz_iload_n (npc := 32) 1 rfl rfl dX7_as_31 rfl ?_
      refine zz_iald (npc := 33) (by decide) (by rfl) dX7_as_32 rfl ?_
      refine zz_istore_nB (npc := 34) (lv1 := fun v5 => [(3, .int v5), (0, .ref (eA E 0)), (1, .int x1), (2, .int x2)]) rfl dX7_as_33 rfl (by decide) (fun _ => rfl) (fun v5 => ?_)
      refine zz_iload_n (npc := 35) 0 rfl rfl dX7_as_34 rfl ?_
      refine zz_iconst (npc := 36) (-1) (by decide) dX7_as_35 rfl ?_
      refine zz_icmp_ne (tgt := 45) (npc := 39) dX7_as_36 (by decide) rfl ?_ ?_
      · refine zz_aload_n (npc := 46) 1 rfl rfl dX7_as_45 rfl ?_
        refine zz_getR (npc := 49) (i := 0) (C0 := RX7) (T := TX7) (N := 10) (by decide) (by rfl) rfl (by decide) iX7_as_7 (List.mem_of_getElem? (i := 1) rfl) rfl dX7_as_46 rfl ?_
        refine zz_iload_n (npc := 50) 0 rfl rfl dX7_as_49 rfl ?_
        refine zz_iload_n (npc := 51) 3 rfl rfl dX7_as_50 rfl ?_
        refine zz_callVi (npc := 54) (n := 2) (As := [.int v5, .int x2]) (by decide) (by rfl) rfl gX7_as_X1_isOfKind rfl rfl rfl (by decide +kernel) ⟨Nat.le_of_ble_eq_true rfl, Nat.le_of_ble_eq_true rfl⟩ rfl rfl (Nat.le_of_ble_eq_true rfl) (mtX1_isOfKind E l 1 ld_c1 v5 x2 M3) dX7_as_51 rfl (fun r7 M6 _ => ?_)
        refine zz_if_eq (tgt := 61) (npc := 57) dX7_as_54 (by decide) rfl ?_ ?_
        · refine zz_aload_n (npc := 62) 1 rfl rfl dX7_as_61 rfl ?_
          refine zz_iconst (npc := 63) 2 (by decide) dX7_as_62 rfl ?_
          refine zz_callVi (npc := 66) (n := 1) (As := [.int 2]) (by decide) (by rfl) rfl gX7_as_X7_found rfl rfl rfl (by decide +kernel) ⟨Nat.le_of_ble_eq_true rfl, Nat.le_of_ble_eq_true rfl⟩ rfl rfl (Nat.le_of_ble_eq_true rfl) (mtX7_found E l  2 M6) dX7_as_63 rfl (fun r9 M8 _ => ?_)
          exact zz_iret dX7_as_66
        · refine zz_iload_n (npc := 58) 0 rfl rfl dX7_as_57 rfl ?_
          refine zz_goto (npc := 0) (tgt := 66) dX7_as_58 (by decide) ?_
          exact zz_iret dX7_as_66
      · refine zz_aload_n (npc := 40) 1 rfl rfl dX7_as_39 rfl ?_
        refine zz_iconst (npc := 41) 5 (by decide) dX7_as_40 rfl ?_
        refine zz_callVi (npc := 44) (n := 1) (As := [.int 5]) (by decide) (by rfl) rfl gX7_as_X7_found rfl rfl rfl (by decide +kernel) ⟨Nat.le_of_ble_eq_true rfl, Nat.le_of_ble_eq_true rfl⟩ rfl rfl (Nat.le_of_ble_eq_true rfl) (mtX7_found E l  5 M3) dX7_as_41 rfl (fun r11 M10 _ => ?_)
        exact zz_iret dX7_as_44
    · refine zz_sub (npc := 0) (lv1 := [(0, .ref (eA E 0))]) [0] rfl ?_
      exact zX7_as_L18 E l  M3
abbrev rmX7_sheet : Room := { frames := 2, cells := 0, slots := 0, locals := 47 }
theorem iX7_sheet_5 : ∀ w ∈ u_ws RX5 TX5 3, w ∈ wsX7_sheet := fun w h => List.mem_cons_of_mem _ (List.mem_append_right _ h)
theorem iX7_sheet_7 : ∀ w ∈ u_ws RX7 TX7 10, w ∈ wsX7_sheet := fun w h => List.mem_cons_of_mem _ (List.mem_append_left _ (List.mem_append_right _ h))
noncomputable def fX7_sheet_L29    (M : Mem) : Option (Int32 × Mem) := (bd (fX7_found 0 M) fun r4 M3 => (some (r4, M3)))
set_option maxHeartbeats 4000000 in
set_option maxRecDepth 100000 in
theorem zX7_sheet_L29 (E : EV) (l : Launch)     : ∀  (M : Mem), ZZ E l RX7 cX7_sheet 4 (some .int) wsX7_sheet rmX7_sheet vI (fX7_sheet_L29 M) M [(0, .ref (eA E 0))] 29 [] := by
  intro M
  unfold fX7_sheet_L29
  refine zz_aload_n (npc := 30) 0 rfl rfl dX7_sheet_29 rfl ?_
  refine zz_iconst (npc := 31) 0 (by decide) dX7_sheet_30 rfl ?_
  refine zz_callVi (npc := 34) (n := 1) (As := [.int 0]) (by decide) (by rfl) rfl gX7_sheet_X7_found rfl rfl rfl (by decide +kernel) ⟨Nat.le_of_ble_eq_true rfl, Nat.le_of_ble_eq_true rfl⟩ rfl rfl (Nat.le_of_ble_eq_true rfl) (mtX7_found E l  0 M) dX7_sheet_31 rfl (fun r4 M3 _ => ?_)
  exact zz_iret dX7_sheet_34
noncomputable def fX7_sheet_L35   (y1 : Int32) (y2 : Int32) (y3 : Int32) (M : Mem) : Option (Int32 × Mem) := (if 0 ≤ y3 then (if y3 ≤ 40 then (ck (inb y1 4) (bd (fX5_renew (48 + 2 * ix y1) y2 y3 M) fun _ M5 => (ck (inb y1 4) (some (M5 (48 + 2 * ix y1) 2, M5))))) else (bd (fX7_found 0 M) fun r7 M6 => (some (r7, M6)))) else (bd (fX7_found 6 M) fun r9 M8 => (some (r9, M8))))
set_option maxHeartbeats 4000000 in
set_option maxRecDepth 100000 in
theorem zX7_sheet_L35 (E : EV) (l : Launch)     : ∀ (y1 : Int32) (y2 : Int32) (y3 : Int32) (M : Mem), ZZ E l RX7 cX7_sheet 4 (some .int) wsX7_sheet rmX7_sheet vI (fX7_sheet_L35 y1 y2 y3 M) M [(0, .ref (eA E 0)), (1, .int y1), (2, .int y2), (3, .int y3)] 35 [] := by
  intro y1 y2 y3 M
  unfold fX7_sheet_L35
  refine zz_iload_n (npc := 36) 3 rfl rfl dX7_sheet_35 rfl ?_
  refine zz_if_ge (tgt := 46) (npc := 39) dX7_sheet_36 (by decide) rfl ?_ ?_
  · refine zz_iload_n (npc := 47) 3 rfl rfl dX7_sheet_46 rfl ?_
    refine zz_bipush (npc := 49) 40 (by decide) dX7_sheet_47 rfl ?_
    refine zz_icmp_le (tgt := 58) (npc := 52) dX7_sheet_49 (by decide) rfl ?_ ?_
    · refine zz_aload_n (npc := 59) 0 rfl rfl dX7_sheet_58 rfl ?_
      refine zz_getR (npc := 62) (i := 7) (C0 := RX7) (T := TX7) (N := 10) (by decide) (by rfl) rfl (by decide) iX7_sheet_7 (List.mem_of_getElem? (i := 1) rfl) rfl dX7_sheet_59 rfl ?_
      refine zz_iload_n (npc := 63) 1 rfl rfl dX7_sheet_62 rfl ?_
      refine zz_aaldS (npc := 64) (by decide) (by rfl) dX7_sheet_63 rfl (fun hs63 => ?_)
      refine zz_iload_n (npc := 65) 2 rfl rfl dX7_sheet_64 rfl ?_
      refine zz_iload_n (npc := 66) 3 rfl rfl dX7_sheet_65 rfl ?_
      refine zz_callVv (npc := 69) (n := 2) (As := [.int y2, .int y3]) (sh_lt0 (sh_ix hs63)) (sh_o (sh_ix hs63)) rfl gX7_sheet_X5_renew rfl rfl rfl (by decide +kernel) ⟨Nat.le_of_ble_eq_true rfl, Nat.le_of_ble_eq_true rfl⟩ rfl rfl (Nat.le_of_ble_eq_true rfl) (mtX5_renew E l (48 + 2 * ix y1) (sh_ix hs63) y2 y3 M) dX7_sheet_66 rfl (fun _ M5 _ => ?_)
      refine zz_aload_n (npc := 70) 0 rfl rfl dX7_sheet_69 rfl ?_
      refine zz_getR (npc := 73) (i := 7) (C0 := RX7) (T := TX7) (N := 10) (by decide) (by rfl) rfl (by decide) iX7_sheet_7 (List.mem_of_getElem? (i := 1) rfl) rfl dX7_sheet_70 rfl ?_
      refine zz_iload_n (npc := 74) 1 rfl rfl dX7_sheet_73 rfl ?_
      refine zz_aaldS (npc := 75) (by decide) (by rfl) dX7_sheet_74 rfl (fun hs74 => ?_)
      refine zz_getI (npc := 78) (i := 2) (C0 := RX5) (T := TX5) (N := 3) (sh_lt0 (sh_ix hs74)) (sh_o (sh_ix hs74)) rfl (by decide) iX7_sheet_5 (List.mem_of_getElem? (i := 2) rfl) rfl dX7_sheet_75 rfl ?_
      exact zz_iret dX7_sheet_78
    · refine zz_aload_n (npc := 53) 0 rfl rfl dX7_sheet_52 rfl ?_
      refine zz_iconst (npc := 54) 0 (by decide) dX7_sheet_53 rfl ?_
      refine zz_callVi (npc := 57) (n := 1) (As := [.int 0]) (by decide) (by rfl) rfl gX7_sheet_X7_found rfl rfl rfl (by decide +kernel) ⟨Nat.le_of_ble_eq_true rfl, Nat.le_of_ble_eq_true rfl⟩ rfl rfl (Nat.le_of_ble_eq_true rfl) (mtX7_found E l  0 M) dX7_sheet_54 rfl (fun r7 M6 _ => ?_)
      exact zz_iret dX7_sheet_57
  · refine zz_aload_n (npc := 40) 0 rfl rfl dX7_sheet_39 rfl ?_
    refine zz_bipush (npc := 42) 6 (by decide) dX7_sheet_40 rfl ?_
    refine zz_callVi (npc := 45) (n := 1) (As := [.int 6]) (by decide) (by rfl) rfl gX7_sheet_X7_found rfl rfl rfl (by decide +kernel) ⟨Nat.le_of_ble_eq_true rfl, Nat.le_of_ble_eq_true rfl⟩ rfl rfl (Nat.le_of_ble_eq_true rfl) (mtX7_found E l  6 M) dX7_sheet_42 rfl (fun r9 M8 _ => ?_)
    exact zz_iret dX7_sheet_45
noncomputable def fX7_sheet  (x1 : Int32) (x2 : Int32) (x3 : Int32) (M : Mem) : Option (Int32 × Mem) := (bd (fX7_isSheet x1 M) fun r2 M1 => (if r2 = 0 then (fX7_sheet_L29  M1) else (if x2 = 0 then (fX7_sheet_L35  x1 x2 x3 M1) else (if x2 = 8 then (fX7_sheet_L35  x1 x2 x3 M1) else (if x2 = 16 then (fX7_sheet_L35  x1 x2 x3 M1) else (if x2 = 32 then (fX7_sheet_L35  x1 x2 x3 M1) else (fX7_sheet_L29  M1)))))))
set_option maxHeartbeats 4000000 in
set_option maxRecDepth 100000 in
theorem mtX7_sheet (E : EV) (l : Launch)   (x1 : Int32) (x2 : Int32) (x3 : Int32) (M : Mem) : CT E l yX7_sheet wsX7_sheet rmX7_sheet vI [.ref (eA E 0), .int x1, .int x2, .int x3] (fX7_sheet x1 x2 x3 M) M := by
  refine ct_of (cc := cX7_sheet) (nL := 4) (ret := (some .int)) (by decide +kernel) rfl (Nat.le_of_ble_eq_true rfl) ?_
  show ZZ E l RX7 cX7_sheet 4 (some .int) wsX7_sheet rmX7_sheet vI (fX7_sheet x1 x2 x3 M) M [(0, .ref (eA E 0)), (1, .int x1), (2, .int x2), (3, .int x3)] 0 []
  unfold fX7_sheet
  refine zz_iload_n (npc := 1) 1 rfl rfl dX7_sheet_0 rfl ?_
  refine zz_callSi (npc := 4) (n := 1) (As := [.int x1]) gX7_sheet_X7_isSheet rfl rfl rfl (by decide +kernel) ⟨Nat.le_of_ble_eq_true rfl, Nat.le_of_ble_eq_true rfl⟩ rfl rfl (Nat.le_of_ble_eq_true rfl) (mtX7_isSheet E l  x1 M) dX7_sheet_1 rfl (fun r2 M1 _ => ?_)
  refine zz_if_eq (tgt := 29) (npc := 7) dX7_sheet_4 (by decide) rfl ?_ ?_
  · refine zz_sub (npc := 0) (lv1 := [(0, .ref (eA E 0))]) [0] rfl ?_
    exact zX7_sheet_L29 E l  M1
  · refine zz_iload_n (npc := 8) 2 rfl rfl dX7_sheet_7 rfl ?_
    refine zz_if_eq (tgt := 35) (npc := 11) dX7_sheet_8 (by decide) rfl ?_ ?_
    · exact zX7_sheet_L35 E l  x1 x2 x3 M1
    · refine zz_iload_n (npc := 12) 2 rfl rfl dX7_sheet_11 rfl ?_
      refine zz_bipush (npc := 14) 8 (by decide) dX7_sheet_12 rfl ?_
      refine zz_icmp_eq (tgt := 35) (npc := 17) dX7_sheet_14 (by decide) rfl ?_ ?_
      · exact zX7_sheet_L35 E l  x1 x2 x3 M1
      · refine zz_iload_n (npc := 18) 2 rfl rfl dX7_sheet_17 rfl ?_
        refine zz_bipush (npc := 20) 16 (by decide) dX7_sheet_18 rfl ?_
        refine zz_icmp_eq (tgt := 35) (npc := 23) dX7_sheet_20 (by decide) rfl ?_ ?_
        · exact zX7_sheet_L35 E l  x1 x2 x3 M1
        · refine zz_iload_n (npc := 24) 2 rfl rfl dX7_sheet_23 rfl ?_
          refine zz_bipush (npc := 26) 32 (by decide) dX7_sheet_24 rfl ?_
          refine zz_icmp_eq (tgt := 35) (npc := 29) dX7_sheet_26 (by decide) rfl ?_ ?_
          · exact zX7_sheet_L35 E l  x1 x2 x3 M1
          · refine zz_sub (npc := 0) (lv1 := [(0, .ref (eA E 0))]) [0] rfl ?_
            exact zX7_sheet_L29 E l  M1
abbrev rmX7_write : Room := { frames := 3, cells := 0, slots := 0, locals := 62 }
theorem iX7_write_5 : ∀ w ∈ u_ws RX5 TX5 3, w ∈ wsX7_write := fun w h => List.mem_cons_of_mem _ (List.mem_append_right _ h)
theorem iX7_write_7 : ∀ w ∈ u_ws RX7 TX7 10, w ∈ wsX7_write := fun w h => List.mem_cons_of_mem _ (List.mem_append_left _ (List.mem_append_right _ h))
noncomputable def fX7_write  (x1 : Int32) (x2 : Int32) (x3 : Int32) (M : Mem) : Option (Int32 × Mem) := (bd (fX7_lackOf x1 M) fun r2 M1 => (if r2 = (-1) then (ck (inb x1 4) (bd (fX7_isWithin x2 ((M1 (48 + 2 * ix x1) 2) - 1) M1) fun r4 M3 => (if r4 = 0 then (bd (fX7_found 0 M3) fun r7 M6 => (some (r7, M6))) else (ck (inb x1 4) (bd (fX5_put (48 + 2 * ix x1) x2 x3 M3) fun _ M5 => (some (1, M5))))))) else (bd (fX7_found r2 M1) fun r9 M8 => (some (r9, M8)))))
set_option maxHeartbeats 4000000 in
set_option maxRecDepth 100000 in
theorem mtX7_write (E : EV) (l : Launch)   (x1 : Int32) (x2 : Int32) (x3 : Int32) (M : Mem) : CT E l yX7_write wsX7_write rmX7_write vI [.ref (eA E 0), .int x1, .int x2, .int x3] (fX7_write x1 x2 x3 M) M := by
  refine ct_of (cc := cX7_write) (nL := 5) (ret := (some .int)) (by decide +kernel) rfl (Nat.le_of_ble_eq_true rfl) ?_
  show ZZ E l RX7 cX7_write 5 (some .int) wsX7_write rmX7_write vI (fX7_write x1 x2 x3 M) M [(0, .ref (eA E 0)), (1, .int x1), (2, .int x2), (3, .int x3)] 0 []
  unfold fX7_write
  refine zz_aload_n (npc := 1) 0 rfl rfl dX7_write_0 rfl ?_
  refine zz_iload_n (npc := 2) 1 rfl rfl dX7_write_1 rfl ?_
  refine zz_callVi (npc := 5) (n := 1) (As := [.int x1]) (by decide) (by rfl) rfl gX7_write_X7_lackOf rfl rfl rfl (by decide +kernel) ⟨Nat.le_of_ble_eq_true rfl, Nat.le_of_ble_eq_true rfl⟩ rfl rfl (Nat.le_of_ble_eq_true rfl) (mtX7_lackOf E l  x1 M) dX7_write_2 rfl (fun r2 M1 _ => ?_)
  refine zz_istore (npc := 7) (lv1 := [(4, .int r2), (0, .ref (eA E 0)), (1, .int x1), (2, .int x2), (3, .int x3)]) dX7_write_5 rfl (by decide) rfl ?_
  refine zz_iload (npc := 9) 0 rfl dX7_write_7 rfl ?_
  refine zz_iconst (npc := 10) (-1) (by decide) dX7_write_9 rfl ?_
  refine zz_icmp_eq (tgt := 20) (npc := 13) dX7_write_10 (by decide) rfl ?_ ?_
  · refine zz_iload_n (npc := 21) 3 rfl rfl dX7_write_20 rfl ?_
    refine zz_aload_n (npc := 22) 1 rfl rfl dX7_write_21 rfl ?_
    refine zz_getR (npc := 25) (i := 7) (C0 := RX7) (T := TX7) (N := 10) (by decide) (by rfl) rfl (by decide) iX7_write_7 (List.mem_of_getElem? (i := 1) rfl) rfl dX7_write_22 rfl ?_
    refine zz_iload_n (npc := 26) 2 rfl rfl dX7_write_25 rfl ?_
    refine zz_aaldS (npc := 27) (by decide) (by rfl) dX7_write_26 rfl (fun hs26 => ?_)
    refine zz_getI (npc := 30) (i := 2) (C0 := RX5) (T := TX5) (N := 3) (sh_lt0 (sh_ix hs26)) (sh_o (sh_ix hs26)) rfl (by decide) iX7_write_5 (List.mem_of_getElem? (i := 2) rfl) rfl dX7_write_27 rfl ?_
    refine zz_iconst (npc := 31) 1 (by decide) dX7_write_30 rfl ?_
    refine zz_isub (npc := 32) dX7_write_31 rfl ?_
    refine zz_callSi (npc := 35) (n := 2) (As := [.int x2, .int ((M1 (48 + 2 * ix x1) 2) - 1)]) gX7_write_X7_isWithin rfl rfl rfl (by decide +kernel) ⟨Nat.le_of_ble_eq_true rfl, Nat.le_of_ble_eq_true rfl⟩ rfl rfl (Nat.le_of_ble_eq_true rfl) (mtX7_isWithin E l  x2 ((M1 (48 + 2 * ix x1) 2) - 1) M1) dX7_write_32 rfl (fun r4 M3 _ => ?_)
    refine zz_if_ne (tgt := 44) (npc := 38) dX7_write_35 (by decide) rfl ?_ ?_
    · refine zz_aload_n (npc := 45) 1 rfl rfl dX7_write_44 rfl ?_
      refine zz_getR (npc := 48) (i := 7) (C0 := RX7) (T := TX7) (N := 10) (by decide) (by rfl) rfl (by decide) iX7_write_7 (List.mem_of_getElem? (i := 1) rfl) rfl dX7_write_45 rfl ?_
      refine zz_iload_n (npc := 49) 2 rfl rfl dX7_write_48 rfl ?_
      refine zz_aaldS (npc := 50) (by decide) (by rfl) dX7_write_49 rfl (fun hs49 => ?_)
      refine zz_iload_n (npc := 51) 3 rfl rfl dX7_write_50 rfl ?_
      refine zz_iload_n (npc := 52) 4 rfl rfl dX7_write_51 rfl ?_
      refine zz_callVv (npc := 55) (n := 2) (As := [.int x2, .int x3]) (sh_lt0 (sh_ix hs49)) (sh_o (sh_ix hs49)) rfl gX7_write_X5_put rfl rfl rfl (by decide +kernel) ⟨Nat.le_of_ble_eq_true rfl, Nat.le_of_ble_eq_true rfl⟩ rfl rfl (Nat.le_of_ble_eq_true rfl) (mtX5_put E l (48 + 2 * ix x1) (sh_ix hs49) x2 x3 M3) dX7_write_52 rfl (fun _ M5 _ => ?_)
      refine zz_iconst (npc := 56) 1 (by decide) dX7_write_55 rfl ?_
      exact zz_iret dX7_write_56
    · refine zz_aload_n (npc := 39) 1 rfl rfl dX7_write_38 rfl ?_
      refine zz_iconst (npc := 40) 0 (by decide) dX7_write_39 rfl ?_
      refine zz_callVi (npc := 43) (n := 1) (As := [.int 0]) (by decide) (by rfl) rfl gX7_write_X7_found rfl rfl rfl (by decide +kernel) ⟨Nat.le_of_ble_eq_true rfl, Nat.le_of_ble_eq_true rfl⟩ rfl rfl (Nat.le_of_ble_eq_true rfl) (mtX7_found E l  0 M3) dX7_write_40 rfl (fun r7 M6 _ => ?_)
      exact zz_iret dX7_write_43
  · refine zz_aload_n (npc := 14) 1 rfl rfl dX7_write_13 rfl ?_
    refine zz_iload (npc := 16) 0 rfl dX7_write_14 rfl ?_
    refine zz_callVi (npc := 19) (n := 1) (As := [.int r2]) (by decide) (by rfl) rfl gX7_write_X7_found rfl rfl rfl (by decide +kernel) ⟨Nat.le_of_ble_eq_true rfl, Nat.le_of_ble_eq_true rfl⟩ rfl rfl (Nat.le_of_ble_eq_true rfl) (mtX7_found E l  r2 M1) dX7_write_16 rfl (fun r9 M8 _ => ?_)
    exact zz_iret dX7_write_19
abbrev rmX7_copy : Room := { frames := 2, cells := 0, slots := 0, locals := 100 }
theorem iX7_copy_5 : ∀ w ∈ u_ws RX5 TX5 3, w ∈ wsX7_copy := fun w h => List.mem_cons_of_mem _ (List.mem_append_right _ h)
theorem iX7_copy_7 : ∀ w ∈ u_ws RX7 TX7 10, w ∈ wsX7_copy := fun w h => List.mem_cons_of_mem _ (List.mem_append_left _ (List.mem_append_right _ h))
noncomputable def fX7_copy_L14    (M : Mem) : Option (Int32 × Mem) := (bd (fX7_found 0 M) fun r17 M16 => (some (r17, M16)))
set_option maxHeartbeats 4000000 in
set_option maxRecDepth 100000 in
theorem zX7_copy_L14 (E : EV) (l : Launch)     : ∀  (M : Mem), ZZ E l RX7 cX7_copy 6 (some .int) wsX7_copy rmX7_copy vI (fX7_copy_L14 M) M [(0, .ref (eA E 0))] 14 [] := by
  intro M
  unfold fX7_copy_L14
  refine zz_aload_n (npc := 15) 0 rfl rfl dX7_copy_14 rfl ?_
  refine zz_iconst (npc := 16) 0 (by decide) dX7_copy_15 rfl ?_
  refine zz_callVi (npc := 19) (n := 1) (As := [.int 0]) (by decide) (by rfl) rfl gX7_copy_X7_found rfl rfl rfl (by decide +kernel) ⟨Nat.le_of_ble_eq_true rfl, Nat.le_of_ble_eq_true rfl⟩ rfl rfl (Nat.le_of_ble_eq_true rfl) (mtX7_found E l  0 M) dX7_copy_16 rfl (fun r17 M16 _ => ?_)
  exact zz_iret dX7_copy_19
noncomputable def fX7_copy_L44    (M : Mem) : Option (Int32 × Mem) := (bd (fX7_found 5 M) fun r19 M18 => (some (r19, M18)))
set_option maxHeartbeats 4000000 in
set_option maxRecDepth 100000 in
theorem zX7_copy_L44 (E : EV) (l : Launch)     : ∀  (M : Mem), ZZ E l RX7 cX7_copy 6 (some .int) wsX7_copy rmX7_copy vI (fX7_copy_L44 M) M [(0, .ref (eA E 0))] 44 [] := by
  intro M
  unfold fX7_copy_L44
  refine zz_aload_n (npc := 45) 0 rfl rfl dX7_copy_44 rfl ?_
  refine zz_iconst (npc := 46) 5 (by decide) dX7_copy_45 rfl ?_
  refine zz_callVi (npc := 49) (n := 1) (As := [.int 5]) (by decide) (by rfl) rfl gX7_copy_X7_found rfl rfl rfl (by decide +kernel) ⟨Nat.le_of_ble_eq_true rfl, Nat.le_of_ble_eq_true rfl⟩ rfl rfl (Nat.le_of_ble_eq_true rfl) (mtX7_found E l  5 M) dX7_copy_46 rfl (fun r19 M18 _ => ?_)
  exact zz_iret dX7_copy_49
noncomputable def fX7_copy_L108    (M : Mem) : Option (Int32 × Mem) := (bd (fX7_found 0 M) fun r21 M20 => (some (r21, M20)))
set_option maxHeartbeats 4000000 in
set_option maxRecDepth 100000 in
theorem zX7_copy_L108 (E : EV) (l : Launch)     : ∀  (M : Mem), ZZ E l RX7 cX7_copy 6 (some .int) wsX7_copy rmX7_copy vI (fX7_copy_L108 M) M [(0, .ref (eA E 0))] 108 [] := by
  intro M
  unfold fX7_copy_L108
  refine zz_aload_n (npc := 109) 0 rfl rfl dX7_copy_108 rfl ?_
  refine zz_iconst (npc := 110) 0 (by decide) dX7_copy_109 rfl ?_
  refine zz_callVi (npc := 113) (n := 1) (As := [.int 0]) (by decide) (by rfl) rfl gX7_copy_X7_found rfl rfl rfl (by decide +kernel) ⟨Nat.le_of_ble_eq_true rfl, Nat.le_of_ble_eq_true rfl⟩ rfl rfl (Nat.le_of_ble_eq_true rfl) (mtX7_found E l  0 M) dX7_copy_110 rfl (fun r21 M20 _ => ?_)
  exact zz_iret dX7_copy_113
noncomputable def fX7_copy  (x1 : Int32) (x2 : Int32) (x3 : Int32) (x4 : Int32) (x5 : Int32) (M : Mem) : Option (Int32 × Mem) := (bd (fX7_isSheet x1 M) fun r2 M1 => (if r2 = 0 then (fX7_copy_L14  M1) else (bd (fX7_isSheet x3 M1) fun r4 M3 => (if r4 = 0 then (fX7_copy_L14  M3) else (ck (inb x1 4) (bd (fX5_isMissing (48 + 2 * ix x1) M3) fun r6 M5 => (if r6 = 0 then (ck (inb x3 4) (bd (fX5_isMissing (48 + 2 * ix x3) M5) fun r8 M7 => (if r8 = 0 then (ck (inb x1 4) (ck (inb x3 4) (if (M7 (48 + 2 * ix x1) 1) = (M7 (48 + 2 * ix x3) 1) then (ck (inb x1 4) (bd (fX5_hasRun (48 + 2 * ix x1) x2 x5 M7) fun r10 M9 => (if r10 = 0 then (fX7_copy_L108  M9) else (ck (inb x3 4) (bd (fX5_hasRun (48 + 2 * ix x3) x4 x5 M9) fun r12 M11 => (if r12 = 0 then (fX7_copy_L108  M11) else (ck (inb x1 4) (ck (inb x3 4) (ck (cpb x2 x4 x5 40 40) (wm (wrow M11 ((48 + 2 * ix x3) + 1) (va_cpy (M11 ((48 + 2 * ix x1) + 1)) (M11 ((48 + 2 * ix x3) + 1)) (ix x2) (ix x4) (ix x5))) fun M13 => (some (x5, M13)))))))))))) else (bd (fX7_found 2 M7) fun r15 M14 => (some (r15, M14)))))) else (fX7_copy_L44  M7)))) else (fX7_copy_L44  M5))))))))
set_option maxHeartbeats 4000000 in
set_option maxRecDepth 100000 in
theorem mtX7_copy (E : EV) (l : Launch)   (x1 : Int32) (x2 : Int32) (x3 : Int32) (x4 : Int32) (x5 : Int32) (M : Mem) : CT E l yX7_copy wsX7_copy rmX7_copy vI [.ref (eA E 0), .int x1, .int x2, .int x3, .int x4, .int x5] (fX7_copy x1 x2 x3 x4 x5 M) M := by
  refine ct_of (cc := cX7_copy) (nL := 6) (ret := (some .int)) (by decide +kernel) rfl (Nat.le_of_ble_eq_true rfl) ?_
  show ZZ E l RX7 cX7_copy 6 (some .int) wsX7_copy rmX7_copy vI (fX7_copy x1 x2 x3 x4 x5 M) M [(0, .ref (eA E 0)), (1, .int x1), (2, .int x2), (3, .int x3), (4, .int x4), (5, .int x5)] 0 []
  unfold fX7_copy
  refine zz_iload_n (npc := 1) 1 rfl rfl dX7_copy_0 rfl ?_
  refine zz_callSi (npc := 4) (n := 1) (As := [.int x1]) gX7_copy_X7_isSheet rfl rfl rfl (by decide +kernel) ⟨Nat.le_of_ble_eq_true rfl, Nat.le_of_ble_eq_true rfl⟩ rfl rfl (Nat.le_of_ble_eq_true rfl) (mtX7_isSheet E l  x1 M) dX7_copy_1 rfl (fun r2 M1 _ => ?_)
  refine zz_if_eq (tgt := 14) (npc := 7) dX7_copy_4 (by decide) rfl ?_ ?_
  · refine zz_sub (npc := 0) (lv1 := [(0, .ref (eA E 0))]) [0] rfl ?_
    exact zX7_copy_L14 E l  M1
  · refine zz_iload_n (npc := 8) 3 rfl rfl dX7_copy_7 rfl ?_
    refine zz_callSi (npc := 11) (n := 1) (As := [.int x3]) gX7_copy_X7_isSheet rfl rfl rfl (by decide +kernel) ⟨Nat.le_of_ble_eq_true rfl, Nat.le_of_ble_eq_true rfl⟩ rfl rfl (Nat.le_of_ble_eq_true rfl) (mtX7_isSheet E l  x3 M1) dX7_copy_8 rfl (fun r4 M3 _ => ?_)
    refine zz_if_ne (tgt := 20) (npc := 14) dX7_copy_11 (by decide) rfl ?_ ?_
    · refine zz_aload_n (npc := 21) 0 rfl rfl dX7_copy_20 rfl ?_
      refine zz_getR (npc := 24) (i := 7) (C0 := RX7) (T := TX7) (N := 10) (by decide) (by rfl) rfl (by decide) iX7_copy_7 (List.mem_of_getElem? (i := 1) rfl) rfl dX7_copy_21 rfl ?_
      refine zz_iload_n (npc := 25) 1 rfl rfl dX7_copy_24 rfl ?_
      refine zz_aaldS (npc := 26) (by decide) (by rfl) dX7_copy_25 rfl (fun hs25 => ?_)
      refine zz_callVi (npc := 29) (n := 0) (As := []) (sh_lt0 (sh_ix hs25)) (sh_o (sh_ix hs25)) rfl gX7_copy_X5_isMissing rfl rfl rfl (by decide +kernel) ⟨Nat.le_of_ble_eq_true rfl, Nat.le_of_ble_eq_true rfl⟩ rfl rfl (Nat.le_of_ble_eq_true rfl) (mtX5_isMissing E l (48 + 2 * ix x1) (sh_ix hs25)  M3) dX7_copy_26 rfl (fun r6 M5 _ => ?_)
      refine zz_if_ne (tgt := 44) (npc := 32) dX7_copy_29 (by decide) rfl ?_ ?_
      · refine zz_sub (npc := 0) (lv1 := [(0, .ref (eA E 0))]) [0] rfl ?_
        exact zX7_copy_L44 E l  M5
      · refine zz_aload_n (npc := 33) 0 rfl rfl dX7_copy_32 rfl ?_
        refine zz_getR (npc := 36) (i := 7) (C0 := RX7) (T := TX7) (N := 10) (by decide) (by rfl) rfl (by decide) iX7_copy_7 (List.mem_of_getElem? (i := 1) rfl) rfl dX7_copy_33 rfl ?_
        refine zz_iload_n (npc := 37) 3 rfl rfl dX7_copy_36 rfl ?_
        refine zz_aaldS (npc := 38) (by decide) (by rfl) dX7_copy_37 rfl (fun hs37 => ?_)
        refine zz_callVi (npc := 41) (n := 0) (As := []) (sh_lt0 (sh_ix hs37)) (sh_o (sh_ix hs37)) rfl gX7_copy_X5_isMissing rfl rfl rfl (by decide +kernel) ⟨Nat.le_of_ble_eq_true rfl, Nat.le_of_ble_eq_true rfl⟩ rfl rfl (Nat.le_of_ble_eq_true rfl) (mtX5_isMissing E l (48 + 2 * ix x3) (sh_ix hs37)  M5) dX7_copy_38 rfl (fun r8 M7 _ => ?_)
        refine zz_if_eq (tgt := 50) (npc := 44) dX7_copy_41 (by decide) rfl ?_ ?_
        · refine zz_aload_n (npc := 51) 0 rfl rfl dX7_copy_50 rfl ?_
          refine zz_getR (npc := 54) (i := 7) (C0 := RX7) (T := TX7) (N := 10) (by decide) (by rfl) rfl (by decide) iX7_copy_7 (List.mem_of_getElem? (i := 1) rfl) rfl dX7_copy_51 rfl ?_
          refine zz_iload_n (npc := 55) 1 rfl rfl dX7_copy_54 rfl ?_
          refine zz_aaldS (npc := 56) (by decide) (by rfl) dX7_copy_55 rfl (fun hs55 => ?_)
          refine zz_getI (npc := 59) (i := 1) (C0 := RX5) (T := TX5) (N := 3) (sh_lt0 (sh_ix hs55)) (sh_o (sh_ix hs55)) rfl (by decide) iX7_copy_5 (List.mem_of_getElem? (i := 2) rfl) rfl dX7_copy_56 rfl ?_
          refine zz_aload_n (npc := 60) 0 rfl rfl dX7_copy_59 rfl ?_
          refine zz_getR (npc := 63) (i := 7) (C0 := RX7) (T := TX7) (N := 10) (by decide) (by rfl) rfl (by decide) iX7_copy_7 (List.mem_of_getElem? (i := 1) rfl) rfl dX7_copy_60 rfl ?_
          refine zz_iload_n (npc := 64) 3 rfl rfl dX7_copy_63 rfl ?_
          refine zz_aaldS (npc := 65) (by decide) (by rfl) dX7_copy_64 rfl (fun hs64 => ?_)
          refine zz_getI (npc := 68) (i := 1) (C0 := RX5) (T := TX5) (N := 3) (sh_lt0 (sh_ix hs64)) (sh_o (sh_ix hs64)) rfl (by decide) iX7_copy_5 (List.mem_of_getElem? (i := 2) rfl) rfl dX7_copy_65 rfl ?_
          refine zz_icmp_eq (tgt := 77) (npc := 71) dX7_copy_68 (by decide) rfl ?_ ?_
          · refine zz_aload_n (npc := 78) 0 rfl rfl dX7_copy_77 rfl ?_
            refine zz_getR (npc := 81) (i := 7) (C0 := RX7) (T := TX7) (N := 10) (by decide) (by rfl) rfl (by decide) iX7_copy_7 (List.mem_of_getElem? (i := 1) rfl) rfl dX7_copy_78 rfl ?_
            refine zz_iload_n (npc := 82) 1 rfl rfl dX7_copy_81 rfl ?_
            refine zz_aaldS (npc := 83) (by decide) (by rfl) dX7_copy_82 rfl (fun hs82 => ?_)
            refine zz_iload_n (npc := 84) 2 rfl rfl dX7_copy_83 rfl ?_
            refine zz_iload (npc := 86) 5 rfl dX7_copy_84 rfl ?_
            refine zz_callVi (npc := 89) (n := 2) (As := [.int x2, .int x5]) (sh_lt0 (sh_ix hs82)) (sh_o (sh_ix hs82)) rfl gX7_copy_X5_hasRun rfl rfl rfl (by decide +kernel) ⟨Nat.le_of_ble_eq_true rfl, Nat.le_of_ble_eq_true rfl⟩ rfl rfl (Nat.le_of_ble_eq_true rfl) (mtX5_hasRun E l (48 + 2 * ix x1) (sh_ix hs82) x2 x5 M7) dX7_copy_86 rfl (fun r10 M9 _ => ?_)
            refine zz_if_eq (tgt := 108) (npc := 92) dX7_copy_89 (by decide) rfl ?_ ?_
            · refine zz_sub (npc := 0) (lv1 := [(0, .ref (eA E 0))]) [0] rfl ?_
              exact zX7_copy_L108 E l  M9
            · refine zz_aload_n (npc := 93) 0 rfl rfl dX7_copy_92 rfl ?_
              refine zz_getR (npc := 96) (i := 7) (C0 := RX7) (T := TX7) (N := 10) (by decide) (by rfl) rfl (by decide) iX7_copy_7 (List.mem_of_getElem? (i := 1) rfl) rfl dX7_copy_93 rfl ?_
              refine zz_iload_n (npc := 97) 3 rfl rfl dX7_copy_96 rfl ?_
              refine zz_aaldS (npc := 98) (by decide) (by rfl) dX7_copy_97 rfl (fun hs97 => ?_)
              refine zz_iload (npc := 100) 4 rfl dX7_copy_98 rfl ?_
              refine zz_iload (npc := 102) 5 rfl dX7_copy_100 rfl ?_
              refine zz_callVi (npc := 105) (n := 2) (As := [.int x4, .int x5]) (sh_lt0 (sh_ix hs97)) (sh_o (sh_ix hs97)) rfl gX7_copy_X5_hasRun rfl rfl rfl (by decide +kernel) ⟨Nat.le_of_ble_eq_true rfl, Nat.le_of_ble_eq_true rfl⟩ rfl rfl (Nat.le_of_ble_eq_true rfl) (mtX5_hasRun E l (48 + 2 * ix x3) (sh_ix hs97) x4 x5 M9) dX7_copy_102 rfl (fun r12 M11 _ => ?_)
              refine zz_if_ne (tgt := 114) (npc := 108) dX7_copy_105 (by decide) rfl ?_ ?_
              · refine zz_aload_n (npc := 115) 0 rfl rfl dX7_copy_114 rfl ?_
                refine zz_getR (npc := 118) (i := 7) (C0 := RX7) (T := TX7) (N := 10) (by decide) (by rfl) rfl (by decide) iX7_copy_7 (List.mem_of_getElem? (i := 1) rfl) rfl dX7_copy_115 rfl ?_
                refine zz_iload_n (npc := 119) 1 rfl rfl dX7_copy_118 rfl ?_
                refine zz_aaldS (npc := 120) (by decide) (by rfl) dX7_copy_119 rfl (fun hs119 => ?_)
                refine zz_getR (npc := 123) (i := 0) (C0 := RX5) (T := TX5) (N := 3) (sh_lt0 (sh_ix hs119)) (sh_o (sh_ix hs119)) rfl (by decide) iX7_copy_5 (List.mem_of_getElem? (i := 3) rfl) rfl dX7_copy_120 rfl ?_
                refine zz_iload_n (npc := 124) 2 rfl rfl dX7_copy_123 rfl ?_
                refine zz_aload_n (npc := 125) 0 rfl rfl dX7_copy_124 rfl ?_
                refine zz_getR (npc := 128) (i := 7) (C0 := RX7) (T := TX7) (N := 10) (by decide) (by rfl) rfl (by decide) iX7_copy_7 (List.mem_of_getElem? (i := 1) rfl) rfl dX7_copy_125 rfl ?_
                refine zz_iload_n (npc := 129) 3 rfl rfl dX7_copy_128 rfl ?_
                refine zz_aaldS (npc := 130) (by decide) (by rfl) dX7_copy_129 rfl (fun hs129 => ?_)
                refine zz_getR (npc := 133) (i := 0) (C0 := RX5) (T := TX5) (N := 3) (sh_lt0 (sh_ix hs129)) (sh_o (sh_ix hs129)) rfl (by decide) iX7_copy_5 (List.mem_of_getElem? (i := 3) rfl) rfl dX7_copy_130 rfl ?_
                refine zz_iload (npc := 135) 4 rfl dX7_copy_133 rfl ?_
                refine zz_iload (npc := 137) 5 rfl dX7_copy_135 rfl ?_
                refine zz_copy (npc := 140) (sh_lt1 (sh_ix hs119)) (sh_a1 (sh_ix hs119)) (sh_lt1 (sh_ix hs129)) (sh_a1 (sh_ix hs129)) (List.mem_of_getElem? (i := 4) rfl) (List.mem_of_getElem? (i := 5) rfl) (List.mem_of_getElem? (i := 6) rfl) (List.mem_of_getElem? (i := 7) rfl) (Nat.le_of_ble_eq_true rfl) (Nat.le_of_ble_eq_true rfl) dX7_copy_137 rfl (fun M13 => ?_)
                refine zz_iload (npc := 142) 5 rfl dX7_copy_140 rfl ?_
                exact zz_iret dX7_copy_142
              · refine zz_sub (npc := 0) (lv1 := [(0, .ref (eA E 0))]) [0] rfl ?_
                exact zX7_copy_L108 E l  M11
          · refine zz_aload_n (npc := 72) 0 rfl rfl dX7_copy_71 rfl ?_
            refine zz_iconst (npc := 73) 2 (by decide) dX7_copy_72 rfl ?_
            refine zz_callVi (npc := 76) (n := 1) (As := [.int 2]) (by decide) (by rfl) rfl gX7_copy_X7_found rfl rfl rfl (by decide +kernel) ⟨Nat.le_of_ble_eq_true rfl, Nat.le_of_ble_eq_true rfl⟩ rfl rfl (Nat.le_of_ble_eq_true rfl) (mtX7_found E l  2 M7) dX7_copy_73 rfl (fun r15 M14 _ => ?_)
            exact zz_iret dX7_copy_76
        · refine zz_sub (npc := 0) (lv1 := [(0, .ref (eA E 0))]) [0] rfl ?_
          exact zX7_copy_L44 E l  M7
    · refine zz_sub (npc := 0) (lv1 := [(0, .ref (eA E 0))]) [0] rfl ?_
      exact zX7_copy_L14 E l  M3
abbrev rmX7_load : Room := { frames := 3, cells := 0, slots := 0, locals := 62 }
theorem iX7_load_1 : ∀ w ∈ u_ws RX1 TX1 12, w ∈ wsX7_load := fun w h => List.mem_cons_of_mem _ (List.mem_append_right _ h)
theorem iX7_load_5 : ∀ w ∈ u_ws RX5 TX5 3, w ∈ wsX7_load := fun w h => List.mem_cons_of_mem _ (List.mem_append_left _ (List.mem_append_right _ h))
theorem iX7_load_7 : ∀ w ∈ u_ws RX7 TX7 10, w ∈ wsX7_load := fun w h => List.mem_cons_of_mem _ (List.mem_append_left _ (List.mem_append_left _ (List.mem_append_right _ h)))
noncomputable def fX7_load_L40   : Nat → Int32 → Int32 → Int32 → Mem → Option (Int32 × Mem)
  | 0, _, _, _, _ => none
  | n + 1, y1, y3, y4, M => (if y3 ≤ y4 then (some (y3, M)) else (ck (inb y1 4) (ck (inb y4 40) (bd (fX7_isWithin (M ((48 + 2 * ix y1) + 1) (ix y4)) 99 M) fun r7 M6 => (if r7 = 0 then (some (y4, M6)) else (ck (inb y1 4) (ck (inb y4 40) (ck (inb y4 8) (wm (wr M6 3 (ix y4) (M6 ((48 + 2 * ix y1) + 1) (ix y4))) fun M8 => (bv (y4 + 1) fun v9 => (fX7_load_L40  n y1 y3 v9 M8)))))))))))
set_option maxHeartbeats 4000000 in
set_option maxRecDepth 100000 in
theorem zX7_load_L40 (E : EV) (l : Launch)     : ∀ (n : Nat) (y1 : Int32) (y3 : Int32) (y4 : Int32) (M : Mem), ZZ E l RX7 cX7_load 5 (some .int) wsX7_load rmX7_load vI (fX7_load_L40 n y1 y3 y4 M) M [(0, .ref (eA E 0)), (1, .int y1), (3, .int y3), (4, .int y4)] 40 [] := by
  intro n
  induction n with
  | zero => intros; exact zz_none
  | succ n ih =>
    intro y1 y3 y4 M
    rw [fX7_load_L40]
    refine zz_iload (npc := 42) 3 rfl dX7_load_40 rfl ?_
    refine zz_iload_n (npc := 43) 2 rfl rfl dX7_load_42 rfl ?_
    refine zz_icmp_ge (tgt := 97) (npc := 46) dX7_load_43 (by decide) rfl ?_ ?_
    · refine zz_iload_n (npc := 98) 2 rfl rfl dX7_load_97 rfl ?_
      exact zz_iret dX7_load_98
    · refine zz_aload_n (npc := 47) 0 rfl rfl dX7_load_46 rfl ?_
      refine zz_getR (npc := 50) (i := 7) (C0 := RX7) (T := TX7) (N := 10) (by decide) (by rfl) rfl (by decide) iX7_load_7 (List.mem_of_getElem? (i := 1) rfl) rfl dX7_load_47 rfl ?_
      refine zz_iload_n (npc := 51) 1 rfl rfl dX7_load_50 rfl ?_
      refine zz_aaldS (npc := 52) (by decide) (by rfl) dX7_load_51 rfl (fun hs51 => ?_)
      refine zz_getR (npc := 55) (i := 0) (C0 := RX5) (T := TX5) (N := 3) (sh_lt0 (sh_ix hs51)) (sh_o (sh_ix hs51)) rfl (by decide) iX7_load_5 (List.mem_of_getElem? (i := 9) rfl) rfl dX7_load_52 rfl ?_
      refine zz_iload (npc := 57) 3 rfl dX7_load_55 rfl ?_
      refine zz_iald (npc := 58) (sh_lt1 (sh_ix hs51)) (sh_a1 (sh_ix hs51)) dX7_load_57 rfl ?_
      refine zz_bipush (npc := 60) 99 (by decide) dX7_load_58 rfl ?_
      refine zz_callSi (npc := 63) (n := 2) (As := [.int (M ((48 + 2 * ix y1) + 1) (ix y4)), .int 99]) gX7_load_X7_isWithin rfl rfl rfl (by decide +kernel) ⟨Nat.le_of_ble_eq_true rfl, Nat.le_of_ble_eq_true rfl⟩ rfl rfl (Nat.le_of_ble_eq_true rfl) (mtX7_isWithin E l  (M ((48 + 2 * ix y1) + 1) (ix y4)) 99 M) dX7_load_60 rfl (fun r7 M6 _ => ?_)
      refine zz_if_ne (tgt := 69) (npc := 66) dX7_load_63 (by decide) rfl ?_ ?_
      · refine zz_aload_n (npc := 70) 0 rfl rfl dX7_load_69 rfl ?_
        refine zz_getR (npc := 73) (i := 0) (C0 := RX7) (T := TX7) (N := 10) (by decide) (by rfl) rfl (by decide) iX7_load_7 (List.mem_of_getElem? (i := 3) rfl) rfl dX7_load_70 rfl ?_
        refine zz_getR (npc := 76) (i := 1) (C0 := RX1) (T := TX1) (N := 12) (by decide) (by rfl) rfl (by decide) iX7_load_1 (List.mem_of_getElem? (i := 10) rfl) rfl dX7_load_73 rfl ?_
        refine zz_iload (npc := 78) 3 rfl dX7_load_76 rfl ?_
        refine zz_aload_n (npc := 79) 0 rfl rfl dX7_load_78 rfl ?_
        refine zz_getR (npc := 82) (i := 7) (C0 := RX7) (T := TX7) (N := 10) (by decide) (by rfl) rfl (by decide) iX7_load_7 (List.mem_of_getElem? (i := 1) rfl) rfl dX7_load_79 rfl ?_
        refine zz_iload_n (npc := 83) 1 rfl rfl dX7_load_82 rfl ?_
        refine zz_aaldS (npc := 84) (by decide) (by rfl) dX7_load_83 rfl (fun hs83 => ?_)
        refine zz_getR (npc := 87) (i := 0) (C0 := RX5) (T := TX5) (N := 3) (sh_lt0 (sh_ix hs83)) (sh_o (sh_ix hs83)) rfl (by decide) iX7_load_5 (List.mem_of_getElem? (i := 9) rfl) rfl dX7_load_84 rfl ?_
        refine zz_iload (npc := 89) 3 rfl dX7_load_87 rfl ?_
        refine zz_iald (npc := 90) (sh_lt1 (sh_ix hs83)) (sh_a1 (sh_ix hs83)) dX7_load_89 rfl ?_
        refine zz_iast (npc := 91) (by decide) (by rfl) dX7_load_90 rfl (fun M8 => ?_)
        refine zz_iincB (npc := 94) (y4 + 1) (lv1 := fun v9 => [(4, .int v9), (0, .ref (eA E 0)), (1, .int y1), (3, .int y3)]) dX7_load_91 rfl 3 rfl rfl (by decide) (fun _ => rfl) (fun v9 => ?_)
        refine zz_goto (npc := 0) (tgt := 40) dX7_load_94 (by decide) ?_
        refine zz_sub (npc := 0) (lv1 := [(0, .ref (eA E 0)), (1, .int y1), (3, .int y3), (4, .int v9)]) [1, 2, 3, 0] rfl ?_
        exact ih y1 y3 v9 M8
      · refine zz_iload (npc := 68) 3 rfl dX7_load_66 rfl ?_
        exact zz_iret dX7_load_68
noncomputable def fX7_load  (x1 : Int32) (M : Mem) : Option (Int32 × Mem) := (bd (fX7_lackOf x1 M) fun r2 M1 => (if r2 = (-1) then (ck (inb x1 4) (bv (imin (M1 (48 + 2 * ix x1) 2) (M1 1 6)) fun v3 => (fX7_load_L40  fu x1 v3 0 M1))) else (bd (fX7_found r2 M1) fun r5 M4 => (some (r5, M4)))))
set_option maxHeartbeats 4000000 in
set_option maxRecDepth 100000 in
theorem mtX7_load (E : EV) (l : Launch)   (x1 : Int32) (M : Mem) : CT E l yX7_load wsX7_load rmX7_load vI [.ref (eA E 0), .int x1] (fX7_load x1 M) M := by
  refine ct_of (cc := cX7_load) (nL := 5) (ret := (some .int)) (by decide +kernel) rfl (Nat.le_of_ble_eq_true rfl) ?_
  show ZZ E l RX7 cX7_load 5 (some .int) wsX7_load rmX7_load vI (fX7_load x1 M) M [(0, .ref (eA E 0)), (1, .int x1)] 0 []
  unfold fX7_load
  refine zz_aload_n (npc := 1) 0 rfl rfl dX7_load_0 rfl ?_
  refine zz_iload_n (npc := 2) 1 rfl rfl dX7_load_1 rfl ?_
  refine zz_callVi (npc := 5) (n := 1) (As := [.int x1]) (by decide) (by rfl) rfl gX7_load_X7_lackOf rfl rfl rfl (by decide +kernel) ⟨Nat.le_of_ble_eq_true rfl, Nat.le_of_ble_eq_true rfl⟩ rfl rfl (Nat.le_of_ble_eq_true rfl) (mtX7_lackOf E l  x1 M) dX7_load_2 rfl (fun r2 M1 _ => ?_)
  refine zz_istore_n (npc := 6) (lv1 := [(2, .int r2), (0, .ref (eA E 0)), (1, .int x1)]) rfl dX7_load_5 rfl (by decide) rfl ?_
  refine zz_iload_n (npc := 7) 0 rfl rfl dX7_load_6 rfl ?_
  refine zz_iconst (npc := 8) (-1) (by decide) dX7_load_7 rfl ?_
  refine zz_icmp_eq (tgt := 17) (npc := 11) dX7_load_8 (by decide) rfl ?_ ?_
  · refine zz_aload_n (npc := 18) 1 rfl rfl dX7_load_17 rfl ?_
    refine zz_getR (npc := 21) (i := 7) (C0 := RX7) (T := TX7) (N := 10) (by decide) (by rfl) rfl (by decide) iX7_load_7 (List.mem_of_getElem? (i := 1) rfl) rfl dX7_load_18 rfl ?_
    refine zz_iload_n (npc := 22) 2 rfl rfl dX7_load_21 rfl ?_
    refine zz_aaldS (npc := 23) (by decide) (by rfl) dX7_load_22 rfl (fun hs22 => ?_)
    refine zz_getI (npc := 26) (i := 2) (C0 := RX5) (T := TX5) (N := 3) (sh_lt0 (sh_ix hs22)) (sh_o (sh_ix hs22)) rfl (by decide) iX7_load_5 (List.mem_of_getElem? (i := 2) rfl) rfl dX7_load_23 rfl ?_
    refine zz_aload_n (npc := 27) 1 rfl rfl dX7_load_26 rfl ?_
    refine zz_getR (npc := 30) (i := 0) (C0 := RX7) (T := TX7) (N := 10) (by decide) (by rfl) rfl (by decide) iX7_load_7 (List.mem_of_getElem? (i := 3) rfl) rfl dX7_load_27 rfl ?_
    refine zz_getI (npc := 33) (i := 6) (C0 := RX1) (T := TX1) (N := 12) (by decide) (by rfl) rfl (by decide) iX7_load_1 (List.mem_of_getElem? (i := 4) rfl) rfl dX7_load_30 rfl ?_
    refine zz_mmin (npc := 36) (List.mem_of_getElem? (i := 5) rfl) (List.mem_of_getElem? (i := 6) rfl) (List.mem_of_getElem? (i := 7) rfl) (List.mem_of_getElem? (i := 8) rfl) (Nat.le_of_ble_eq_true rfl) (Nat.le_of_ble_eq_true rfl) dX7_load_33 rfl ?_
    refine zz_istore_nB (npc := 37) (lv1 := fun v3 => [(3, .int v3), (2, .int r2), (0, .ref (eA E 0)), (1, .int x1)]) rfl dX7_load_36 rfl (by decide) (fun _ => rfl) (fun v3 => ?_)
    refine zz_iconst (npc := 38) 0 (by decide) dX7_load_37 rfl ?_
    refine zz_istore (npc := 40) (lv1 := [(4, .int 0), (3, .int v3), (2, .int r2), (0, .ref (eA E 0)), (1, .int x1)]) dX7_load_38 rfl (by decide) rfl ?_
    refine zz_sub (npc := 0) (lv1 := [(0, .ref (eA E 0)), (1, .int x1), (3, .int v3), (4, .int 0)]) [3, 4, 1, 0] rfl ?_
    exact zX7_load_L40 E l  fu x1 v3 0 M1
  · refine zz_aload_n (npc := 12) 1 rfl rfl dX7_load_11 rfl ?_
    refine zz_iload_n (npc := 13) 0 rfl rfl dX7_load_12 rfl ?_
    refine zz_callVi (npc := 16) (n := 1) (As := [.int r2]) (by decide) (by rfl) rfl gX7_load_X7_found rfl rfl rfl (by decide +kernel) ⟨Nat.le_of_ble_eq_true rfl, Nat.le_of_ble_eq_true rfl⟩ rfl rfl (Nat.le_of_ble_eq_true rfl) (mtX7_found E l  r2 M1) dX7_load_13 rfl (fun r5 M4 _ => ?_)
    exact zz_iret dX7_load_16
abbrev rmX7_judge : Room := { frames := 5, cells := 0, slots := 0, locals := 163 }
theorem iX7_judge_1 : ∀ w ∈ u_ws RX1 TX1 12, w ∈ wsX7_judge := fun w h => List.mem_cons_of_mem _ (List.mem_append_left _ (List.mem_append_right _ h))
theorem iX7_judge_5 : ∀ w ∈ u_ws RX5 TX5 3, w ∈ wsX7_judge := fun w h => List.mem_cons_of_mem _ (List.mem_append_left _ (List.mem_append_left _ (List.mem_append_right _ h)))
theorem iX7_judge_7 : ∀ w ∈ u_ws RX7 TX7 10, w ∈ wsX7_judge := fun w h => List.mem_cons_of_mem _ (List.mem_append_left _ (List.mem_append_left _ (List.mem_append_left _ (List.mem_append_right _ h))))
noncomputable def fX7_judge_L30   : Nat → Int32 → Int32 → Mem → Option (Int32 × Mem)
  | 0, _, _, _ => none
  | n + 1, y1, y3, M => (ck (inb y1 4) (if (M (48 + 2 * ix y1) 2) ≤ y3 then (some (0, M)) else (ck (inb y1 4) (ck (inb y3 40) (bd (fX4_isShadowSet ((M 1 8) + y3) (M ((48 + 2 * ix y1) + 1) (ix y3)) M) fun r7 M6 => (if r7 = 0 then (some (1 + y3, M6)) else (bv (y3 + 1) fun v8 => (fX7_judge_L30  n y1 v8 M6))))))))
set_option maxHeartbeats 4000000 in
set_option maxRecDepth 100000 in
theorem zX7_judge_L30 (E : EV) (l : Launch)     : ∀ (n : Nat) (y1 : Int32) (y3 : Int32) (M : Mem), ZZ E l RX7 cX7_judge 4 (some .int) wsX7_judge rmX7_judge vI (fX7_judge_L30 n y1 y3 M) M [(0, .ref (eA E 0)), (1, .int y1), (3, .int y3)] 30 [] := by
  intro n
  induction n with
  | zero => intros; exact zz_none
  | succ n ih =>
    intro y1 y3 M
    rw [fX7_judge_L30]
    refine zz_iload_n (npc := 31) 2 rfl rfl dX7_judge_30 rfl ?_
    refine zz_aload_n (npc := 32) 0 rfl rfl dX7_judge_31 rfl ?_
    refine zz_getR (npc := 35) (i := 7) (C0 := RX7) (T := TX7) (N := 10) (by decide) (by rfl) rfl (by decide) iX7_judge_7 (List.mem_of_getElem? (i := 3) rfl) rfl dX7_judge_32 rfl ?_
    refine zz_iload_n (npc := 36) 1 rfl rfl dX7_judge_35 rfl ?_
    refine zz_aaldS (npc := 37) (by decide) (by rfl) dX7_judge_36 rfl (fun hs36 => ?_)
    refine zz_getI (npc := 40) (i := 2) (C0 := RX5) (T := TX5) (N := 3) (sh_lt0 (sh_ix hs36)) (sh_o (sh_ix hs36)) rfl (by decide) iX7_judge_5 (List.mem_of_getElem? (i := 4) rfl) rfl dX7_judge_37 rfl ?_
    refine zz_icmp_ge (tgt := 83) (npc := 43) dX7_judge_40 (by decide) rfl ?_ ?_
    · refine zz_iconst (npc := 84) 0 (by decide) dX7_judge_83 rfl ?_
      exact zz_iret dX7_judge_84
    · refine zz_aload_n (npc := 44) 0 rfl rfl dX7_judge_43 rfl ?_
      refine zz_getR (npc := 47) (i := 2) (C0 := RX7) (T := TX7) (N := 10) (by decide) (by rfl) rfl (by decide) iX7_judge_7 (List.mem_of_getElem? (i := 1) rfl) rfl dX7_judge_44 rfl ?_
      refine zz_aload_n (npc := 48) 0 rfl rfl dX7_judge_47 rfl ?_
      refine zz_getR (npc := 51) (i := 0) (C0 := RX7) (T := TX7) (N := 10) (by decide) (by rfl) rfl (by decide) iX7_judge_7 (List.mem_of_getElem? (i := 2) rfl) rfl dX7_judge_48 rfl ?_
      refine zz_getI (npc := 54) (i := 8) (C0 := RX1) (T := TX1) (N := 12) (by decide) (by rfl) rfl (by decide) iX7_judge_1 (List.mem_of_getElem? (i := 5) rfl) rfl dX7_judge_51 rfl ?_
      refine zz_iload_n (npc := 55) 2 rfl rfl dX7_judge_54 rfl ?_
      refine zz_iadd (npc := 56) dX7_judge_55 rfl ?_
      refine zz_aload_n (npc := 57) 0 rfl rfl dX7_judge_56 rfl ?_
      refine zz_getR (npc := 60) (i := 7) (C0 := RX7) (T := TX7) (N := 10) (by decide) (by rfl) rfl (by decide) iX7_judge_7 (List.mem_of_getElem? (i := 3) rfl) rfl dX7_judge_57 rfl ?_
      refine zz_iload_n (npc := 61) 1 rfl rfl dX7_judge_60 rfl ?_
      refine zz_aaldS (npc := 62) (by decide) (by rfl) dX7_judge_61 rfl (fun hs61 => ?_)
      refine zz_getR (npc := 65) (i := 0) (C0 := RX5) (T := TX5) (N := 3) (sh_lt0 (sh_ix hs61)) (sh_o (sh_ix hs61)) rfl (by decide) iX7_judge_5 (List.mem_of_getElem? (i := 6) rfl) rfl dX7_judge_62 rfl ?_
      refine zz_iload_n (npc := 66) 2 rfl rfl dX7_judge_65 rfl ?_
      refine zz_iald (npc := 67) (sh_lt1 (sh_ix hs61)) (sh_a1 (sh_ix hs61)) dX7_judge_66 rfl ?_
      refine zz_callVi (npc := 70) (n := 2) (As := [.int ((M 1 8) + y3), .int (M ((48 + 2 * ix y1) + 1) (ix y3))]) (by decide) (by rfl) rfl gX7_judge_X4_isShadowSet rfl rfl rfl (by decide +kernel) ⟨Nat.le_of_ble_eq_true rfl, Nat.le_of_ble_eq_true rfl⟩ rfl rfl (Nat.le_of_ble_eq_true rfl) (mtX4_isShadowSet E l  ((M 1 8) + y3) (M ((48 + 2 * ix y1) + 1) (ix y3)) M) dX7_judge_67 rfl (fun r7 M6 _ => ?_)
      refine zz_if_ne (tgt := 77) (npc := 73) dX7_judge_70 (by decide) rfl ?_ ?_
      · refine zz_iincB (npc := 80) (y3 + 1) (lv1 := fun v8 => [(3, .int v8), (0, .ref (eA E 0)), (1, .int y1)]) dX7_judge_77 rfl 2 rfl rfl (by decide) (fun _ => rfl) (fun v8 => ?_)
        refine zz_goto (npc := 0) (tgt := 30) dX7_judge_80 (by decide) ?_
        refine zz_sub (npc := 0) (lv1 := [(0, .ref (eA E 0)), (1, .int y1), (3, .int v8)]) [1, 2, 0] rfl ?_
        exact ih y1 v8 M6
      · refine zz_iconst (npc := 74) 1 (by decide) dX7_judge_73 rfl ?_
        refine zz_iload_n (npc := 75) 2 rfl rfl dX7_judge_74 rfl ?_
        refine zz_iadd (npc := 76) dX7_judge_75 rfl ?_
        exact zz_iret dX7_judge_76
noncomputable def fX7_judge  (x1 : Int32) (M : Mem) : Option (Int32 × Mem) := (bd (fX7_lackOf x1 M) fun r2 M1 => (if r2 = (-1) then (bd (fX4_see 1 M1) fun _ M3 => (fX7_judge_L30  fu x1 0 M3)) else (bd (fX7_found r2 M1) fun r5 M4 => (some (r5, M4)))))
set_option maxHeartbeats 4000000 in
set_option maxRecDepth 100000 in
theorem mtX7_judge (E : EV) (l : Launch)   (x1 : Int32) (M : Mem) : CT E l yX7_judge wsX7_judge rmX7_judge vI [.ref (eA E 0), .int x1] (fX7_judge x1 M) M := by
  refine ct_of (cc := cX7_judge) (nL := 4) (ret := (some .int)) (by decide +kernel) rfl (Nat.le_of_ble_eq_true rfl) ?_
  show ZZ E l RX7 cX7_judge 4 (some .int) wsX7_judge rmX7_judge vI (fX7_judge x1 M) M [(0, .ref (eA E 0)), (1, .int x1)] 0 []
  unfold fX7_judge
  refine zz_aload_n (npc := 1) 0 rfl rfl dX7_judge_0 rfl ?_
  refine zz_iload_n (npc := 2) 1 rfl rfl dX7_judge_1 rfl ?_
  refine zz_callVi (npc := 5) (n := 1) (As := [.int x1]) (by decide) (by rfl) rfl gX7_judge_X7_lackOf rfl rfl rfl (by decide +kernel) ⟨Nat.le_of_ble_eq_true rfl, Nat.le_of_ble_eq_true rfl⟩ rfl rfl (Nat.le_of_ble_eq_true rfl) (mtX7_lackOf E l  x1 M) dX7_judge_2 rfl (fun r2 M1 _ => ?_)
  refine zz_istore_n (npc := 6) (lv1 := [(2, .int r2), (0, .ref (eA E 0)), (1, .int x1)]) rfl dX7_judge_5 rfl (by decide) rfl ?_
  refine zz_iload_n (npc := 7) 0 rfl rfl dX7_judge_6 rfl ?_
  refine zz_iconst (npc := 8) (-1) (by decide) dX7_judge_7 rfl ?_
  refine zz_icmp_eq (tgt := 17) (npc := 11) dX7_judge_8 (by decide) rfl ?_ ?_
  · refine zz_aload_n (npc := 18) 1 rfl rfl dX7_judge_17 rfl ?_
    refine zz_getR (npc := 21) (i := 2) (C0 := RX7) (T := TX7) (N := 10) (by decide) (by rfl) rfl (by decide) iX7_judge_7 (List.mem_of_getElem? (i := 1) rfl) rfl dX7_judge_18 rfl ?_
    refine zz_aload_n (npc := 22) 1 rfl rfl dX7_judge_21 rfl ?_
    refine zz_getR (npc := 25) (i := 0) (C0 := RX7) (T := TX7) (N := 10) (by decide) (by rfl) rfl (by decide) iX7_judge_7 (List.mem_of_getElem? (i := 2) rfl) rfl dX7_judge_22 rfl ?_
    refine zz_callVv (npc := 28) (n := 1) (As := [.ref (eA E 1)]) (by decide) (by rfl) rfl gX7_judge_X4_see rfl rfl rfl (by decide +kernel) ⟨Nat.le_of_ble_eq_true rfl, Nat.le_of_ble_eq_true rfl⟩ rfl rfl (Nat.le_of_ble_eq_true rfl) (mtX4_see E l 1 ld_c1  M1) dX7_judge_25 rfl (fun _ M3 _ => ?_)
    refine zz_iconst (npc := 29) 0 (by decide) dX7_judge_28 rfl ?_
    refine zz_istore_n (npc := 30) (lv1 := [(3, .int 0), (2, .int r2), (0, .ref (eA E 0)), (1, .int x1)]) rfl dX7_judge_29 rfl (by decide) rfl ?_
    refine zz_sub (npc := 0) (lv1 := [(0, .ref (eA E 0)), (1, .int x1), (3, .int 0)]) [2, 3, 0] rfl ?_
    exact zX7_judge_L30 E l  fu x1 0 M3
  · refine zz_aload_n (npc := 12) 1 rfl rfl dX7_judge_11 rfl ?_
    refine zz_iload_n (npc := 13) 0 rfl rfl dX7_judge_12 rfl ?_
    refine zz_callVi (npc := 16) (n := 1) (As := [.int r2]) (by decide) (by rfl) rfl gX7_judge_X7_found rfl rfl rfl (by decide +kernel) ⟨Nat.le_of_ble_eq_true rfl, Nat.le_of_ble_eq_true rfl⟩ rfl rfl (Nat.le_of_ble_eq_true rfl) (mtX7_found E l  r2 M1) dX7_judge_13 rfl (fun r5 M4 _ => ?_)
    exact zz_iret dX7_judge_16
abbrev rmX7_image : Room := { frames := 2, cells := 0, slots := 0, locals := 121 }
theorem iX7_image_7 : ∀ w ∈ u_ws RX7 TX7 10, w ∈ wsX7_image := fun w h => List.mem_cons_of_mem _ (List.mem_append_left _ (List.mem_append_right _ h))
noncomputable def fX7_image   (M : Mem) : Option (Int32 × Mem) := (bd (fX1_become 8 1 M) fun _ M1 => (ck (isb 1) (wm (wr M1 0 9 1) fun M2 => (some (1, M2)))))
set_option maxHeartbeats 4000000 in
set_option maxRecDepth 100000 in
theorem mtX7_image (E : EV) (l : Launch)    (M : Mem) : CT E l yX7_image wsX7_image rmX7_image vI [.ref (eA E 0)] (fX7_image  M) M := by
  refine ct_of (cc := cX7_image) (nL := 1) (ret := (some .int)) (by decide +kernel) rfl (Nat.le_of_ble_eq_true rfl) ?_
  show ZZ E l RX7 cX7_image 1 (some .int) wsX7_image rmX7_image vI (fX7_image  M) M [(0, .ref (eA E 0))] 0 []
  unfold fX7_image
  refine zz_aload_n (npc := 1) 0 rfl rfl dX7_image_0 rfl ?_
  refine zz_getR (npc := 4) (i := 1) (C0 := RX7) (T := TX7) (N := 10) (by decide) (by rfl) rfl (by decide) iX7_image_7 (List.mem_of_getElem? (i := 1) rfl) rfl dX7_image_1 rfl ?_
  refine zz_aload_n (npc := 5) 0 rfl rfl dX7_image_4 rfl ?_
  refine zz_getR (npc := 8) (i := 0) (C0 := RX7) (T := TX7) (N := 10) (by decide) (by rfl) rfl (by decide) iX7_image_7 (List.mem_of_getElem? (i := 2) rfl) rfl dX7_image_5 rfl ?_
  refine zz_callVv (npc := 11) (n := 1) (As := [.ref (eA E 1)]) (by decide) (by rfl) rfl gX7_image_X1_become rfl rfl rfl (by decide +kernel) ⟨Nat.le_of_ble_eq_true rfl, Nat.le_of_ble_eq_true rfl⟩ rfl rfl (Nat.le_of_ble_eq_true rfl) (mtX1_become E l 8 1 ld_c8 ld_c1  M) dX7_image_8 rfl (fun _ M1 _ => ?_)
  refine zz_aload_n (npc := 12) 0 rfl rfl dX7_image_11 rfl ?_
  refine zz_iconst (npc := 13) 1 (by decide) dX7_image_12 rfl ?_
  refine zz_putZ (npc := 16) (i := 9) (C0 := RX7) (T := TX7) (N := 10) (by decide) (by rfl) rfl (by decide) iX7_image_7 (List.mem_of_getElem? (i := 3) rfl) tyX7_ok nmX7 rfl rfl rfl dX7_image_13 rfl (fun M2 => ?_)
  refine zz_iconst (npc := 17) 1 (by decide) dX7_image_16 rfl ?_
  exact zz_iret dX7_image_17
abbrev rmX7_undo : Room := { frames := 2, cells := 0, slots := 0, locals := 121 }
theorem iX7_undo_1 : ∀ w ∈ u_ws RX1 TX1 12, w ∈ wsX7_undo := fun w h => List.mem_cons_of_mem _ (List.mem_append_right _ h)
theorem iX7_undo_7 : ∀ w ∈ u_ws RX7 TX7 10, w ∈ wsX7_undo := fun w h => List.mem_cons_of_mem _ (List.mem_append_left _ (List.mem_append_right _ h))
noncomputable def fX7_undo   (M : Mem) : Option (Int32 × Mem) := (if (M 0 9) = 0 then (bd (fX7_found 3 M) fun r3 M2 => (some (r3, M2))) else (bd (fX1_become 1 8 M) fun _ M1 => (some (M1 1 8, M1))))
set_option maxHeartbeats 4000000 in
set_option maxRecDepth 100000 in
theorem mtX7_undo (E : EV) (l : Launch)    (M : Mem) : CT E l yX7_undo wsX7_undo rmX7_undo vI [.ref (eA E 0)] (fX7_undo  M) M := by
  refine ct_of (cc := cX7_undo) (nL := 1) (ret := (some .int)) (by decide +kernel) rfl (Nat.le_of_ble_eq_true rfl) ?_
  show ZZ E l RX7 cX7_undo 1 (some .int) wsX7_undo rmX7_undo vI (fX7_undo  M) M [(0, .ref (eA E 0))] 0 []
  unfold fX7_undo
  refine zz_aload_n (npc := 1) 0 rfl rfl dX7_undo_0 rfl ?_
  refine zz_getI (npc := 4) (i := 9) (C0 := RX7) (T := TX7) (N := 10) (by decide) (by rfl) rfl (by decide) iX7_undo_7 (List.mem_of_getElem? (i := 1) rfl) rfl dX7_undo_1 rfl ?_
  refine zz_if_ne (tgt := 13) (npc := 7) dX7_undo_4 (by decide) rfl ?_ ?_
  · refine zz_aload_n (npc := 14) 0 rfl rfl dX7_undo_13 rfl ?_
    refine zz_getR (npc := 17) (i := 0) (C0 := RX7) (T := TX7) (N := 10) (by decide) (by rfl) rfl (by decide) iX7_undo_7 (List.mem_of_getElem? (i := 2) rfl) rfl dX7_undo_14 rfl ?_
    refine zz_aload_n (npc := 18) 0 rfl rfl dX7_undo_17 rfl ?_
    refine zz_getR (npc := 21) (i := 1) (C0 := RX7) (T := TX7) (N := 10) (by decide) (by rfl) rfl (by decide) iX7_undo_7 (List.mem_of_getElem? (i := 3) rfl) rfl dX7_undo_18 rfl ?_
    refine zz_callVv (npc := 24) (n := 1) (As := [.ref (eA E 8)]) (by decide) (by rfl) rfl gX7_undo_X1_become rfl rfl rfl (by decide +kernel) ⟨Nat.le_of_ble_eq_true rfl, Nat.le_of_ble_eq_true rfl⟩ rfl rfl (Nat.le_of_ble_eq_true rfl) (mtX1_become E l 1 8 ld_c1 ld_c8  M) dX7_undo_21 rfl (fun _ M1 _ => ?_)
    refine zz_aload_n (npc := 25) 0 rfl rfl dX7_undo_24 rfl ?_
    refine zz_getR (npc := 28) (i := 0) (C0 := RX7) (T := TX7) (N := 10) (by decide) (by rfl) rfl (by decide) iX7_undo_7 (List.mem_of_getElem? (i := 2) rfl) rfl dX7_undo_25 rfl ?_
    refine zz_getI (npc := 31) (i := 8) (C0 := RX1) (T := TX1) (N := 12) (by decide) (by rfl) rfl (by decide) iX7_undo_1 (List.mem_of_getElem? (i := 4) rfl) rfl dX7_undo_28 rfl ?_
    exact zz_iret dX7_undo_31
  · refine zz_aload_n (npc := 8) 0 rfl rfl dX7_undo_7 rfl ?_
    refine zz_iconst (npc := 9) 3 (by decide) dX7_undo_8 rfl ?_
    refine zz_callVi (npc := 12) (n := 1) (As := [.int 3]) (by decide) (by rfl) rfl gX7_undo_X7_found rfl rfl rfl (by decide +kernel) ⟨Nat.le_of_ble_eq_true rfl, Nat.le_of_ble_eq_true rfl⟩ rfl rfl (Nat.le_of_ble_eq_true rfl) (mtX7_found E l  3 M) dX7_undo_9 rfl (fun r3 M2 _ => ?_)
    exact zz_iret dX7_undo_12
abbrev rmX7_tear : Room := { frames := 0, cells := 0, slots := 0, locals := 0 }
theorem iX7_tear_7 : ∀ w ∈ u_ws RX7 TX7 10, w ∈ wsX7_tear := fun w h => List.mem_cons_of_mem _ (List.mem_append_right _ h)
noncomputable def fX7_tear_L12   (w0 : Int32) (M : Mem) : Option (Int32 × Mem) := (ck (isb 0) (wm (wr M 0 9 0) fun M1 => (some (w0, M1))))
set_option maxHeartbeats 4000000 in
set_option maxRecDepth 100000 in
theorem zX7_tear_L12 (E : EV) (l : Launch)     : ∀ (w0 : Int32) (M : Mem), ZZ E l RX7 cX7_tear 2 (some .int) wsX7_tear rmX7_tear vI (fX7_tear_L12 w0 M) M [(0, .ref (eA E 0))] 12 [.int w0] := by
  intro w0 M
  unfold fX7_tear_L12
  refine zz_istore_n (npc := 13) (lv1 := [(1, .int w0), (0, .ref (eA E 0))]) rfl dX7_tear_12 rfl (by decide) rfl ?_
  refine zz_aload_n (npc := 14) 1 rfl rfl dX7_tear_13 rfl ?_
  refine zz_iconst (npc := 15) 0 (by decide) dX7_tear_14 rfl ?_
  refine zz_putZ (npc := 18) (i := 9) (C0 := RX7) (T := TX7) (N := 10) (by decide) (by rfl) rfl (by decide) iX7_tear_7 (List.mem_of_getElem? (i := 1) rfl) tyX7_ok nmX7 rfl rfl rfl dX7_tear_15 rfl (fun M1 => ?_)
  refine zz_iload_n (npc := 19) 0 rfl rfl dX7_tear_18 rfl ?_
  exact zz_iret dX7_tear_19
noncomputable def fX7_tear   (M : Mem) : Option (Int32 × Mem) := (if (M 0 9) = 0 then (fX7_tear_L12  0 M) else (fX7_tear_L12  1 M))
set_option maxHeartbeats 4000000 in
set_option maxRecDepth 100000 in
theorem mtX7_tear (E : EV) (l : Launch)    (M : Mem) : CT E l yX7_tear wsX7_tear rmX7_tear vI [.ref (eA E 0)] (fX7_tear  M) M := by
  refine ct_of (cc := cX7_tear) (nL := 2) (ret := (some .int)) (by decide +kernel) rfl (Nat.le_of_ble_eq_true rfl) ?_
  show ZZ E l RX7 cX7_tear 2 (some .int) wsX7_tear rmX7_tear vI (fX7_tear  M) M [(0, .ref (eA E 0))] 0 []
  unfold fX7_tear
  refine zz_aload_n (npc := 1) 0 rfl rfl dX7_tear_0 rfl ?_
  refine zz_getI (npc := 4) (i := 9) (C0 := RX7) (T := TX7) (N := 10) (by decide) (by rfl) rfl (by decide) iX7_tear_7 (List.mem_of_getElem? (i := 1) rfl) rfl dX7_tear_1 rfl ?_
  refine zz_if_eq (tgt := 11) (npc := 7) dX7_tear_4 (by decide) rfl ?_ ?_
  · refine zz_iconst (npc := 12) 0 (by decide) dX7_tear_11 rfl ?_
    exact zX7_tear_L12 E l  0 M
  · refine zz_iconst (npc := 8) 1 (by decide) dX7_tear_7 rfl ?_
    refine zz_goto (npc := 0) (tgt := 12) dX7_tear_8 (by decide) ?_
    exact zX7_tear_L12 E l  1 M
abbrev rmX7_count : Room := { frames := 1, cells := 0, slots := 0, locals := 25 }
theorem iX7_count_1 : ∀ w ∈ u_ws RX1 TX1 12, w ∈ wsX7_count := fun w h => List.mem_cons_of_mem _ (List.mem_append_left _ (List.mem_append_right _ h))
theorem iX7_count_6 : ∀ w ∈ u_ws RX6 TX6 2, w ∈ wsX7_count := fun w h => List.mem_cons_of_mem _ (List.mem_append_right _ h)
theorem iX7_count_7 : ∀ w ∈ u_ws RX7 TX7 10, w ∈ wsX7_count := fun w h => List.mem_cons_of_mem _ (List.mem_append_left _ (List.mem_append_left _ (List.mem_append_right _ h)))
noncomputable def fX7_count  (x1 : Int32) (M : Mem) : Option (Int32 × Mem) := (if x1 = 0 then (some (M 1 8, M)) else (if x1 = 1 then (some (M 1 6, M)) else (if x1 = 2 then (bd (fX1_countMated 1 M) fun r2 M1 => (some (r2, M1))) else (if x1 = 3 then (some (M 1 9, M)) else (if x1 = 4 then (bd (fX1_sunOfAll 1 M) fun r4 M3 => (some (r4, M3))) else (if x1 = 5 then (some (M 34 1, M)) else (if x1 = 6 then (some (M 1 11, M)) else (if x1 = 7 then (bd (fX1_countHeld 1 M) fun r6 M5 => (some (r6, M5))) else (bd (fX7_found 0 M) fun r8 M7 => (some (r8, M7)))))))))))
set_option maxHeartbeats 4000000 in
set_option maxRecDepth 100000 in
theorem mtX7_count (E : EV) (l : Launch)   (x1 : Int32) (M : Mem) : CT E l yX7_count wsX7_count rmX7_count vI [.ref (eA E 0), .int x1] (fX7_count x1 M) M := by
  refine ct_of (cc := cX7_count) (nL := 2) (ret := (some .int)) (by decide +kernel) rfl (Nat.le_of_ble_eq_true rfl) ?_
  show ZZ E l RX7 cX7_count 2 (some .int) wsX7_count rmX7_count vI (fX7_count x1 M) M [(0, .ref (eA E 0)), (1, .int x1)] 0 []
  unfold fX7_count
  refine zz_iload_n (npc := 1) 1 rfl rfl dX7_count_0 rfl ?_
  refine zz_tcase (npc := 0) (off := 47) (tgt := 48) 0 dX7_count_1 (by decide) (by decide) (by decide) (by decide) (fun _ => ?_) (fun q1_0 => ?_)
  · refine zz_aload_n (npc := 49) 0 rfl rfl dX7_count_48 rfl ?_
    refine zz_getR (npc := 52) (i := 0) (C0 := RX7) (T := TX7) (N := 10) (by decide) (by rfl) rfl (by decide) iX7_count_7 (List.mem_of_getElem? (i := 1) rfl) rfl dX7_count_49 rfl ?_
    refine zz_getI (npc := 55) (i := 8) (C0 := RX1) (T := TX1) (N := 12) (by decide) (by rfl) rfl (by decide) iX7_count_1 (List.mem_of_getElem? (i := 2) rfl) rfl dX7_count_52 rfl ?_
    exact zz_iret dX7_count_55
  refine zz_tcase (npc := 0) (off := 55) (tgt := 56) 1 dX7_count_1 (by decide) (by decide) (by decide) (by decide) (fun _ => ?_) (fun q1_1 => ?_)
  · refine zz_aload_n (npc := 57) 0 rfl rfl dX7_count_56 rfl ?_
    refine zz_getR (npc := 60) (i := 0) (C0 := RX7) (T := TX7) (N := 10) (by decide) (by rfl) rfl (by decide) iX7_count_7 (List.mem_of_getElem? (i := 1) rfl) rfl dX7_count_57 rfl ?_
    refine zz_getI (npc := 63) (i := 6) (C0 := RX1) (T := TX1) (N := 12) (by decide) (by rfl) rfl (by decide) iX7_count_1 (List.mem_of_getElem? (i := 3) rfl) rfl dX7_count_60 rfl ?_
    exact zz_iret dX7_count_63
  refine zz_tcase (npc := 0) (off := 63) (tgt := 64) 2 dX7_count_1 (by decide) (by decide) (by decide) (by decide) (fun _ => ?_) (fun q1_2 => ?_)
  · refine zz_aload_n (npc := 65) 0 rfl rfl dX7_count_64 rfl ?_
    refine zz_getR (npc := 68) (i := 0) (C0 := RX7) (T := TX7) (N := 10) (by decide) (by rfl) rfl (by decide) iX7_count_7 (List.mem_of_getElem? (i := 1) rfl) rfl dX7_count_65 rfl ?_
    refine zz_callVi (npc := 71) (n := 0) (As := []) (by decide) (by rfl) rfl gX7_count_X1_countMated rfl rfl rfl (by decide +kernel) ⟨Nat.le_of_ble_eq_true rfl, Nat.le_of_ble_eq_true rfl⟩ rfl rfl (Nat.le_of_ble_eq_true rfl) (mtX1_countMated E l 1 ld_c1  M) dX7_count_68 rfl (fun r2 M1 _ => ?_)
    exact zz_iret dX7_count_71
  refine zz_tcase (npc := 0) (off := 71) (tgt := 72) 3 dX7_count_1 (by decide) (by decide) (by decide) (by decide) (fun _ => ?_) (fun q1_3 => ?_)
  · refine zz_aload_n (npc := 73) 0 rfl rfl dX7_count_72 rfl ?_
    refine zz_getR (npc := 76) (i := 0) (C0 := RX7) (T := TX7) (N := 10) (by decide) (by rfl) rfl (by decide) iX7_count_7 (List.mem_of_getElem? (i := 1) rfl) rfl dX7_count_73 rfl ?_
    refine zz_getI (npc := 79) (i := 9) (C0 := RX1) (T := TX1) (N := 12) (by decide) (by rfl) rfl (by decide) iX7_count_1 (List.mem_of_getElem? (i := 4) rfl) rfl dX7_count_76 rfl ?_
    exact zz_iret dX7_count_79
  refine zz_tcase (npc := 0) (off := 79) (tgt := 80) 4 dX7_count_1 (by decide) (by decide) (by decide) (by decide) (fun _ => ?_) (fun q1_4 => ?_)
  · refine zz_aload_n (npc := 81) 0 rfl rfl dX7_count_80 rfl ?_
    refine zz_getR (npc := 84) (i := 0) (C0 := RX7) (T := TX7) (N := 10) (by decide) (by rfl) rfl (by decide) iX7_count_7 (List.mem_of_getElem? (i := 1) rfl) rfl dX7_count_81 rfl ?_
    refine zz_callVi (npc := 87) (n := 0) (As := []) (by decide) (by rfl) rfl gX7_count_X1_sunOfAll rfl rfl rfl (by decide +kernel) ⟨Nat.le_of_ble_eq_true rfl, Nat.le_of_ble_eq_true rfl⟩ rfl rfl (Nat.le_of_ble_eq_true rfl) (mtX1_sunOfAll E l 1 ld_c1  M) dX7_count_84 rfl (fun r4 M3 _ => ?_)
    exact zz_iret dX7_count_87
  refine zz_tcase (npc := 0) (off := 87) (tgt := 88) 5 dX7_count_1 (by decide) (by decide) (by decide) (by decide) (fun _ => ?_) (fun q1_5 => ?_)
  · refine zz_aload_n (npc := 89) 0 rfl rfl dX7_count_88 rfl ?_
    refine zz_getR (npc := 92) (i := 6) (C0 := RX7) (T := TX7) (N := 10) (by decide) (by rfl) rfl (by decide) iX7_count_7 (List.mem_of_getElem? (i := 5) rfl) rfl dX7_count_89 rfl ?_
    refine zz_getI (npc := 95) (i := 1) (C0 := RX6) (T := TX6) (N := 2) (by decide) (by rfl) rfl (by decide) iX7_count_6 (List.mem_of_getElem? (i := 6) rfl) rfl dX7_count_92 rfl ?_
    exact zz_iret dX7_count_95
  refine zz_tcase (npc := 0) (off := 95) (tgt := 96) 6 dX7_count_1 (by decide) (by decide) (by decide) (by decide) (fun _ => ?_) (fun q1_6 => ?_)
  · refine zz_aload_n (npc := 97) 0 rfl rfl dX7_count_96 rfl ?_
    refine zz_getR (npc := 100) (i := 0) (C0 := RX7) (T := TX7) (N := 10) (by decide) (by rfl) rfl (by decide) iX7_count_7 (List.mem_of_getElem? (i := 1) rfl) rfl dX7_count_97 rfl ?_
    refine zz_getI (npc := 103) (i := 11) (C0 := RX1) (T := TX1) (N := 12) (by decide) (by rfl) rfl (by decide) iX7_count_1 (List.mem_of_getElem? (i := 7) rfl) rfl dX7_count_100 rfl ?_
    exact zz_iret dX7_count_103
  refine zz_tcase (npc := 0) (off := 103) (tgt := 104) 7 dX7_count_1 (by decide) (by decide) (by decide) (by decide) (fun _ => ?_) (fun q1_7 => ?_)
  · refine zz_aload_n (npc := 105) 0 rfl rfl dX7_count_104 rfl ?_
    refine zz_getR (npc := 108) (i := 0) (C0 := RX7) (T := TX7) (N := 10) (by decide) (by rfl) rfl (by decide) iX7_count_7 (List.mem_of_getElem? (i := 1) rfl) rfl dX7_count_105 rfl ?_
    refine zz_callVi (npc := 111) (n := 0) (As := []) (by decide) (by rfl) rfl gX7_count_X1_countHeld rfl rfl rfl (by decide +kernel) ⟨Nat.le_of_ble_eq_true rfl, Nat.le_of_ble_eq_true rfl⟩ rfl rfl (Nat.le_of_ble_eq_true rfl) (mtX1_countHeld E l 1 ld_c1  M) dX7_count_108 rfl (fun r6 M5 _ => ?_)
    exact zz_iret dX7_count_111
  refine zz_tdef (npc := 0) (tgt := 112) dX7_count_1 (td_r _ 0 7 (by decide) (by intro k h1 h2; rcases (show k = 0 ∨ k = 1 ∨ k = 2 ∨ k = 3 ∨ k = 4 ∨ k = 5 ∨ k = 6 ∨ k = 7 by omega) with rfl | rfl | rfl | rfl | rfl | rfl | rfl | rfl <;> first | exact q1_0 | exact q1_1 | exact q1_2 | exact q1_3 | exact q1_4 | exact q1_5 | exact q1_6 | exact q1_7)) (by decide) ?_
  refine zz_aload_n (npc := 113) 0 rfl rfl dX7_count_112 rfl ?_
  refine zz_iconst (npc := 114) 0 (by decide) dX7_count_113 rfl ?_
  refine zz_callVi (npc := 117) (n := 1) (As := [.int 0]) (by decide) (by rfl) rfl gX7_count_X7_found rfl rfl rfl (by decide +kernel) ⟨Nat.le_of_ble_eq_true rfl, Nat.le_of_ble_eq_true rfl⟩ rfl rfl (Nat.le_of_ble_eq_true rfl) (mtX7_found E l  0 M) dX7_count_114 rfl (fun r8 M7 _ => ?_)
  exact zz_iret dX7_count_117
abbrev rmX7_sum : Room := { frames := 0, cells := 0, slots := 0, locals := 0 }
noncomputable def fX7_sum_L10 (d1 : Nat)  : Nat → Int32 → Int32 → Int32 → Mem → Option (Int32 × Mem)
  | 0, _, _, _, _ => none
  | n + 1, y1, y3, y4, M => (if y3 ≤ y4 then (some (y1, M)) else (ck (inb y4 7) (bv (M d1 (ix y4)) fun v1 => (bv (y1 + v1) fun v2 => (bv (y4 + 1) fun v3 => (fX7_sum_L10 d1 n v2 y3 v3 M))))))
set_option maxHeartbeats 4000000 in
set_option maxRecDepth 100000 in
theorem zX7_sum_L10 (E : EV) (l : Launch) (d1 : Nat) (hd1 : d1 < NC ∧ lay d1 = (1, 7, []))   : ∀ (n : Nat) (y1 : Int32) (y3 : Int32) (y4 : Int32) (M : Mem), ZZ E l RX7 cX7_sum 6 (some .int) wsX7_sum rmX7_sum vI (fX7_sum_L10 d1 n y1 y3 y4 M) M [(1, .int y1), (2, .ref (eA E d1)), (3, .int y3), (4, .int y4)] 10 [] := by
  intro n
  induction n with
  | zero => intros; exact zz_none
  | succ n ih =>
    intro y1 y3 y4 M
    rw [fX7_sum_L10]
    refine zz_iload (npc := 12) 3 rfl dX7_sum_10 rfl ?_
    refine zz_iload_n (npc := 13) 2 rfl rfl dX7_sum_12 rfl ?_
    refine zz_icmp_ge (tgt := 33) (npc := 16) dX7_sum_13 (by decide) rfl ?_ ?_
    · refine zz_iload_n (npc := 34) 0 rfl rfl dX7_sum_33 rfl ?_
      exact zz_iret dX7_sum_34
    · refine zz_aload_n (npc := 17) 1 rfl rfl dX7_sum_16 rfl ?_
      refine zz_iload (npc := 19) 3 rfl dX7_sum_17 rfl ?_
      refine zz_iald (npc := 20) hd1.1 hd1.2 dX7_sum_19 rfl ?_
      refine zz_istoreB (npc := 22) (lv1 := fun v1 => [(5, .int v1), (1, .int y1), (2, .ref (eA E d1)), (3, .int y3), (4, .int y4)]) dX7_sum_20 rfl (by decide) (fun _ => rfl) (fun v1 => ?_)
      refine zz_iload_n (npc := 23) 1 rfl rfl dX7_sum_22 rfl ?_
      refine zz_iload (npc := 25) 0 rfl dX7_sum_23 rfl ?_
      refine zz_iadd (npc := 26) dX7_sum_25 rfl ?_
      refine zz_istore_nB (npc := 27) (lv1 := fun v2 => [(1, .int v2), (5, .int v1), (2, .ref (eA E d1)), (3, .int y3), (4, .int y4)]) rfl dX7_sum_26 rfl (by decide) (fun _ => rfl) (fun v2 => ?_)
      refine zz_iincB (npc := 30) (y4 + 1) (lv1 := fun v3 => [(4, .int v3), (1, .int v2), (5, .int v1), (2, .ref (eA E d1)), (3, .int y3)]) dX7_sum_27 rfl 4 rfl rfl (by decide) (fun _ => rfl) (fun v3 => ?_)
      refine zz_goto (npc := 0) (tgt := 10) dX7_sum_30 (by decide) ?_
      refine zz_sub (npc := 0) (lv1 := [(1, .int v2), (2, .ref (eA E d1)), (3, .int y3), (4, .int v3)]) [1, 3, 4, 0] rfl ?_
      exact ih v2 y3 v3 M
noncomputable def fX7_sum (d1 : Nat)  (M : Mem) : Option (Int32 × Mem) := (fX7_sum_L10 d1 fu 0 7 0 M)
set_option maxHeartbeats 4000000 in
set_option maxRecDepth 100000 in
theorem mtX7_sum (E : EV) (l : Launch) (d1 : Nat) (hd1 : d1 < NC ∧ lay d1 = (1, 7, []))  (M : Mem) : CT E l yX7_sum wsX7_sum rmX7_sum vI [.ref (eA E d1)] (fX7_sum d1 M) M := by
  refine ct_of (cc := cX7_sum) (nL := 6) (ret := (some .int)) (by decide +kernel) rfl (Nat.le_of_ble_eq_true rfl) ?_
  show ZZ E l RX7 cX7_sum 6 (some .int) wsX7_sum rmX7_sum vI (fX7_sum d1 M) M [(0, .ref (eA E d1))] 0 []
  unfold fX7_sum
  refine zz_iconst (npc := 1) 0 (by decide) dX7_sum_0 rfl ?_
  refine zz_istore_n (npc := 2) (lv1 := [(1, .int 0), (0, .ref (eA E d1))]) rfl dX7_sum_1 rfl (by decide) rfl ?_
  refine zz_aload_n (npc := 3) 1 rfl rfl dX7_sum_2 rfl ?_
  refine zz_astore_n (npc := 4) (lv1 := [(2, .ref (eA E d1)), (1, .int 0), (0, .ref (eA E d1))]) rfl dX7_sum_3 rfl (by decide) rfl ?_
  refine zz_aload_n (npc := 5) 0 rfl rfl dX7_sum_4 rfl ?_
  refine zz_alen (npc := 6) 7 hd1.1 hd1.2 (by decide) dX7_sum_5 rfl ?_
  refine zz_istore_n (npc := 7) (lv1 := [(3, .int 7), (2, .ref (eA E d1)), (1, .int 0), (0, .ref (eA E d1))]) rfl dX7_sum_6 rfl (by decide) rfl ?_
  refine zz_iconst (npc := 8) 0 (by decide) dX7_sum_7 rfl ?_
  refine zz_istore (npc := 10) (lv1 := [(4, .int 0), (3, .int 7), (2, .ref (eA E d1)), (1, .int 0), (0, .ref (eA E d1))]) dX7_sum_8 rfl (by decide) rfl ?_
  refine zz_sub (npc := 0) (lv1 := [(1, .int 0), (2, .ref (eA E d1)), (3, .int 7), (4, .int 0)]) [3, 2, 1, 0] rfl ?_
  exact zX7_sum_L10 E l d1 hd1 fu 0 7 0 M
abbrev rmX7_status : Room := { frames := 1, cells := 0, slots := 0, locals := 25 }
theorem iX7_status_7 : ∀ w ∈ u_ws RX7 TX7 10, w ∈ wsX7_status := fun w h => List.mem_cons_of_mem _ (List.mem_append_right _ h)
noncomputable def fX7_status  (x1 : Int32) (M : Mem) : Option (Int32 × Mem) := (if x1 = (-1) then (bd (fX7_sum 56 M) fun r6 M5 => (some (r6, M5))) else (bd (fX7_isWithin x1 6 M) fun r2 M1 => (if r2 = 0 then (bd (fX7_found 0 M1) fun r4 M3 => (some (r4, M3))) else (ck (inb x1 7) (some (M1 56 (ix x1), M1))))))
set_option maxHeartbeats 4000000 in
set_option maxRecDepth 100000 in
theorem mtX7_status (E : EV) (l : Launch)   (x1 : Int32) (M : Mem) : CT E l yX7_status wsX7_status rmX7_status vI [.ref (eA E 0), .int x1] (fX7_status x1 M) M := by
  refine ct_of (cc := cX7_status) (nL := 2) (ret := (some .int)) (by decide +kernel) rfl (Nat.le_of_ble_eq_true rfl) ?_
  show ZZ E l RX7 cX7_status 2 (some .int) wsX7_status rmX7_status vI (fX7_status x1 M) M [(0, .ref (eA E 0)), (1, .int x1)] 0 []
  unfold fX7_status
  refine zz_iload_n (npc := 1) 1 rfl rfl dX7_status_0 rfl ?_
  refine zz_iconst (npc := 2) (-1) (by decide) dX7_status_1 rfl ?_
  refine zz_icmp_ne (tgt := 13) (npc := 5) dX7_status_2 (by decide) rfl ?_ ?_
  · refine zz_iload_n (npc := 14) 1 rfl rfl dX7_status_13 rfl ?_
    refine zz_bipush (npc := 16) 6 (by decide) dX7_status_14 rfl ?_
    refine zz_callSi (npc := 19) (n := 2) (As := [.int x1, .int 6]) gX7_status_X7_isWithin rfl rfl rfl (by decide +kernel) ⟨Nat.le_of_ble_eq_true rfl, Nat.le_of_ble_eq_true rfl⟩ rfl rfl (Nat.le_of_ble_eq_true rfl) (mtX7_isWithin E l  x1 6 M) dX7_status_16 rfl (fun r2 M1 _ => ?_)
    refine zz_if_eq (tgt := 31) (npc := 22) dX7_status_19 (by decide) rfl ?_ ?_
    · refine zz_aload_n (npc := 32) 0 rfl rfl dX7_status_31 rfl ?_
      refine zz_iconst (npc := 33) 0 (by decide) dX7_status_32 rfl ?_
      refine zz_callVi (npc := 36) (n := 1) (As := [.int 0]) (by decide) (by rfl) rfl gX7_status_X7_found rfl rfl rfl (by decide +kernel) ⟨Nat.le_of_ble_eq_true rfl, Nat.le_of_ble_eq_true rfl⟩ rfl rfl (Nat.le_of_ble_eq_true rfl) (mtX7_found E l  0 M1) dX7_status_33 rfl (fun r4 M3 _ => ?_)
      exact zz_iret dX7_status_36
    · refine zz_aload_n (npc := 23) 0 rfl rfl dX7_status_22 rfl ?_
      refine zz_getR (npc := 26) (i := 8) (C0 := RX7) (T := TX7) (N := 10) (by decide) (by rfl) rfl (by decide) iX7_status_7 (List.mem_of_getElem? (i := 1) rfl) rfl dX7_status_23 rfl ?_
      refine zz_iload_n (npc := 27) 1 rfl rfl dX7_status_26 rfl ?_
      refine zz_iald (npc := 28) (by decide) (by rfl) dX7_status_27 rfl ?_
      refine zz_goto (npc := 0) (tgt := 36) dX7_status_28 (by decide) ?_
      exact zz_iret dX7_status_36
  · refine zz_aload_n (npc := 6) 0 rfl rfl dX7_status_5 rfl ?_
    refine zz_getR (npc := 9) (i := 8) (C0 := RX7) (T := TX7) (N := 10) (by decide) (by rfl) rfl (by decide) iX7_status_7 (List.mem_of_getElem? (i := 1) rfl) rfl dX7_status_6 rfl ?_
    refine zz_callSi (npc := 12) (n := 1) (As := [.ref (eA E 56)]) gX7_status_X7_sum rfl rfl rfl (by decide +kernel) ⟨Nat.le_of_ble_eq_true rfl, Nat.le_of_ble_eq_true rfl⟩ rfl rfl (Nat.le_of_ble_eq_true rfl) (mtX7_sum E l 56 ⟨(by decide), (by rfl)⟩  M) dX7_status_9 rfl (fun r6 M5 _ => ?_)
    exact zz_iret dX7_status_12

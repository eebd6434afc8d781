abbrev rmX8_pairs : Room := { frames := 6, cells := 0, slots := 0, locals := 136 }
noncomputable def fX8_pairs   (M : Mem) : Option (Int32 × Mem) := (bd (fX8_findPairs M) fun r2 M1 => (some (r2, M1)))
set_option maxHeartbeats 4000000 in
set_option maxRecDepth 100000 in
theorem mtX8_pairs (E : EV) (l : Launch)    (M : Mem) : CT E l yX8_pairs wsX8_pairs rmX8_pairs vI [.ref (eA E 57)] (fX8_pairs  M) M := by
  refine ct_of (cc := cX8_pairs) (nL := 1) (ret := (some .int)) (by decide +kernel) rfl (Nat.le_of_ble_eq_true rfl) ?_
  show ZZ E l RX8 cX8_pairs 1 (some .int) wsX8_pairs rmX8_pairs vI (fX8_pairs  M) M [(0, .ref (eA E 57))] 0 []
  unfold fX8_pairs
  refine zz_aload_n (npc := 1) 0 rfl rfl dX8_pairs_0 rfl ?_
  refine zz_callVi (npc := 4) (n := 0) (As := []) (by decide) (by rfl) rfl gX8_pairs_X8_findPairs rfl rfl rfl (by decide +kernel) ⟨Nat.le_of_ble_eq_true rfl, Nat.le_of_ble_eq_true rfl⟩ rfl rfl (Nat.le_of_ble_eq_true rfl) (mtX8_findPairs E l   M) dX8_pairs_1 rfl (fun r2 M1 _ => ?_)
  exact zz_iret dX8_pairs_4
abbrev rmX8_mate : Room := { frames := 6, cells := 0, slots := 0, locals := 136 }
theorem iX8_mate_8 : ∀ w ∈ u_ws RX8 TX8 29, w ∈ wsX8_mate := fun w h => List.mem_cons_of_mem _ (List.mem_append_right _ h)
noncomputable def fX8_mate_L82  (k56 : Int32 → Int32 → Int32 → Int32 → Mem → Option (Int32 × Mem)) (y1 : Int32) (y2 : Int32) (y4 : Int32) (y5 : Int32) (M : Mem) : Option (Int32 × Mem) := (bv (y5 + 1) fun v13 => (k56 y1 y2 y4 v13 M))
set_option maxHeartbeats 4000000 in
set_option maxRecDepth 100000 in
theorem zX8_mate_L82 (E : EV) (l : Launch)   (k56 : Int32 → Int32 → Int32 → Int32 → Mem → Option (Int32 × Mem)) (hk56 : ∀ (y1_ : Int32) (y2_ : Int32) (y4_ : Int32) (y5_ : Int32) (M_ : Mem), ZZ E l RX8 cX8_mate 6 (some .int) wsX8_mate rmX8_mate vI (k56 y1_ y2_ y4_ y5_ M_) M_ [(0, .ref (eA E 57)), (1, .int y1_), (2, .int y2_), (4, .int y4_), (5, .int y5_)] 56 []) : ∀ (y1 : Int32) (y2 : Int32) (y4 : Int32) (y5 : Int32) (M : Mem), ZZ E l RX8 cX8_mate 6 (some .int) wsX8_mate rmX8_mate vI (fX8_mate_L82 k56 y1 y2 y4 y5 M) M [(0, .ref (eA E 57)), (1, .int y1), (2, .int y2), (4, .int y4), (5, .int y5)] 82 [] := by
  intro y1 y2 y4 y5 M
  unfold fX8_mate_L82
  refine zz_iincB (npc := 85) (y5 + 1) (lv1 := fun v13 => [(5, .int v13), (0, .ref (eA E 57)), (1, .int y1), (2, .int y2), (4, .int y4)]) dX8_mate_82 rfl 4 rfl rfl (by decide) (fun _ => rfl) (fun v13 => ?_)
  refine zz_goto (npc := 0) (tgt := 56) dX8_mate_85 (by decide) ?_
  refine zz_sub (npc := 0) (lv1 := [(0, .ref (eA E 57)), (1, .int y1), (2, .int y2), (4, .int y4), (5, .int v13)]) [1, 2, 3, 4, 0] rfl ?_
  exact hk56 y1 y2 y4 v13 M
noncomputable def fX8_mate_L123  (k40 : Int32 → Int32 → Int32 → Mem → Option (Int32 × Mem)) (y1 : Int32) (y2 : Int32) (y4 : Int32) (y5 : Int32) (w0 : Int32) (M : Mem) : Option (Int32 × Mem) := (bv (y2 &&& (((shl 1 y4) ^^^ (-1)) &&& ((shl 1 y5) ^^^ (-1)))) fun v14 => (k40 y1 v14 w0 M))
set_option maxHeartbeats 4000000 in
set_option maxRecDepth 100000 in
theorem zX8_mate_L123 (E : EV) (l : Launch)   (k40 : Int32 → Int32 → Int32 → Mem → Option (Int32 × Mem)) (hk40 : ∀ (y1_ : Int32) (y2_ : Int32) (y3_ : Int32) (M_ : Mem), ZZ E l RX8 cX8_mate 6 (some .int) wsX8_mate rmX8_mate vI (k40 y1_ y2_ y3_ M_) M_ [(0, .ref (eA E 57)), (1, .int y1_), (2, .int y2_), (3, .int y3_)] 40 []) : ∀ (y1 : Int32) (y2 : Int32) (y4 : Int32) (y5 : Int32) (w0 : Int32) (M : Mem), ZZ E l RX8 cX8_mate 6 (some .int) wsX8_mate rmX8_mate vI (fX8_mate_L123 k40 y1 y2 y4 y5 w0 M) M [(0, .ref (eA E 57)), (1, .int y1), (2, .int y2), (4, .int y4), (5, .int y5)] 123 [.int w0] := by
  intro y1 y2 y4 y5 w0 M
  unfold fX8_mate_L123
  refine zz_istore_n (npc := 124) (lv1 := [(3, .int w0), (0, .ref (eA E 57)), (1, .int y1), (2, .int y2), (4, .int y4), (5, .int y5)]) rfl dX8_mate_123 rfl (by decide) rfl ?_
  refine zz_iload_n (npc := 125) 3 rfl rfl dX8_mate_124 rfl ?_
  refine zz_iconst (npc := 126) 1 (by decide) dX8_mate_125 rfl ?_
  refine zz_iload (npc := 128) 4 rfl dX8_mate_126 rfl ?_
  refine zz_ishl (npc := 129) dX8_mate_128 rfl ?_
  refine zz_iconst (npc := 130) (-1) (by decide) dX8_mate_129 rfl ?_
  refine zz_ixor (npc := 131) dX8_mate_130 rfl ?_
  refine zz_iconst (npc := 132) 1 (by decide) dX8_mate_131 rfl ?_
  refine zz_iload (npc := 134) 5 rfl dX8_mate_132 rfl ?_
  refine zz_ishl (npc := 135) dX8_mate_134 rfl ?_
  refine zz_iconst (npc := 136) (-1) (by decide) dX8_mate_135 rfl ?_
  refine zz_ixor (npc := 137) dX8_mate_136 rfl ?_
  refine zz_iand (npc := 138) dX8_mate_137 rfl ?_
  refine zz_iand (npc := 139) dX8_mate_138 rfl ?_
  refine zz_istore_nB (npc := 140) (lv1 := fun v14 => [(2, .int v14), (3, .int w0), (0, .ref (eA E 57)), (1, .int y1), (4, .int y4), (5, .int y5)]) rfl dX8_mate_139 rfl (by decide) (fun _ => rfl) (fun v14 => ?_)
  refine zz_goto (npc := 0) (tgt := 40) dX8_mate_140 (by decide) ?_
  refine zz_sub (npc := 0) (lv1 := [(0, .ref (eA E 57)), (1, .int y1), (2, .int v14), (3, .int w0)]) [2, 3, 0, 1] rfl ?_
  exact hk40 y1 v14 w0 M
noncomputable def fX8_mate_L56  (k40 : Int32 → Int32 → Int32 → Mem → Option (Int32 × Mem)) : Nat → Int32 → Int32 → Int32 → Int32 → Mem → Option (Int32 × Mem)
  | 0, _, _, _, _, _ => none
  | n + 1, y1, y2, y4, y5, M => (bd (fX8_mayBe y2 y5 M) fun r10 M9 => (if r10 = 0 then (fX8_mate_L82 (fX8_mate_L56 k40 n) y1 y2 y4 y5 M9) else (bd (fX8_mostWith y2 y5 M9) fun r12 M11 => (ck (inb y2 256) (if r12 = (M11 63 (ix y2)) then (if y4 = y1 then (if y5 = y4 then (fX8_mate_L123 k40 y1 y2 y4 y5 (-1) M11) else (fX8_mate_L123 k40 y1 y2 y4 y5 y5 M11)) else (if y5 = y1 then (fX8_mate_L123 k40 y1 y2 y4 y5 y4 M11) else (fX8_mate_L123 k40 y1 y2 y4 y5 (-2) M11))) else (fX8_mate_L82 (fX8_mate_L56 k40 n) y1 y2 y4 y5 M11))))))
set_option maxHeartbeats 4000000 in
set_option maxRecDepth 100000 in
theorem zX8_mate_L56 (E : EV) (l : Launch)   (k40 : Int32 → Int32 → Int32 → Mem → Option (Int32 × Mem)) (hk40 : ∀ (y1_ : Int32) (y2_ : Int32) (y3_ : Int32) (M_ : Mem), ZZ E l RX8 cX8_mate 6 (some .int) wsX8_mate rmX8_mate vI (k40 y1_ y2_ y3_ M_) M_ [(0, .ref (eA E 57)), (1, .int y1_), (2, .int y2_), (3, .int y3_)] 40 []) : ∀ (n : Nat) (y1 : Int32) (y2 : Int32) (y4 : Int32) (y5 : Int32) (M : Mem), ZZ E l RX8 cX8_mate 6 (some .int) wsX8_mate rmX8_mate vI (fX8_mate_L56 k40 n y1 y2 y4 y5 M) M [(0, .ref (eA E 57)), (1, .int y1), (2, .int y2), (4, .int y4), (5, .int y5)] 56 [] := by
  intro n
  induction n with
  | zero => intros; exact zz_none
  | succ n ih =>
    intro y1 y2 y4 y5 M
    rw [fX8_mate_L56]
    refine zz_aload_n (npc := 57) 0 rfl rfl dX8_mate_56 rfl ?_
    refine zz_iload_n (npc := 58) 2 rfl rfl dX8_mate_57 rfl ?_
    refine zz_iload (npc := 60) 4 rfl dX8_mate_58 rfl ?_
    refine zz_callVi (npc := 63) (n := 2) (As := [.int y2, .int y5]) (by decide) (by rfl) rfl gX8_mate_X8_mayBe rfl rfl rfl (by decide +kernel) ⟨Nat.le_of_ble_eq_true rfl, Nat.le_of_ble_eq_true rfl⟩ rfl rfl (Nat.le_of_ble_eq_true rfl) (mtX8_mayBe E l  y2 y5 M) dX8_mate_60 rfl (fun r10 M9 _ => ?_)
    refine zz_if_eq (tgt := 82) (npc := 66) dX8_mate_63 (by decide) rfl ?_ ?_
    · exact zX8_mate_L82 E l (fX8_mate_L56 k40 n) ih y1 y2 y4 y5 M9
    · refine zz_aload_n (npc := 67) 0 rfl rfl dX8_mate_66 rfl ?_
      refine zz_iload_n (npc := 68) 2 rfl rfl dX8_mate_67 rfl ?_
      refine zz_iload (npc := 70) 4 rfl dX8_mate_68 rfl ?_
      refine zz_callVi (npc := 73) (n := 2) (As := [.int y2, .int y5]) (by decide) (by rfl) rfl gX8_mate_X8_mostWith rfl rfl rfl (by decide +kernel) ⟨Nat.le_of_ble_eq_true rfl, Nat.le_of_ble_eq_true rfl⟩ rfl rfl (Nat.le_of_ble_eq_true rfl) (mtX8_mostWith E l  y2 y5 M9) dX8_mate_70 rfl (fun r12 M11 _ => ?_)
      refine zz_aload_n (npc := 74) 0 rfl rfl dX8_mate_73 rfl ?_
      refine zz_getR (npc := 77) (i := 10) (C0 := RX8) (T := TX8) (N := 29) (by decide) (by rfl) rfl (by decide) iX8_mate_8 (List.mem_of_getElem? (i := 3) rfl) rfl dX8_mate_74 rfl ?_
      refine zz_iload_n (npc := 78) 2 rfl rfl dX8_mate_77 rfl ?_
      refine zz_iald (npc := 79) (by decide) (by rfl) dX8_mate_78 rfl ?_
      refine zz_icmp_eq (tgt := 88) (npc := 82) dX8_mate_79 (by decide) rfl ?_ ?_
      · refine zz_iload (npc := 90) 3 rfl dX8_mate_88 rfl ?_
        refine zz_iload_n (npc := 91) 1 rfl rfl dX8_mate_90 rfl ?_
        refine zz_icmp_ne (tgt := 110) (npc := 94) dX8_mate_91 (by decide) rfl ?_ ?_
        · refine zz_iload (npc := 112) 4 rfl dX8_mate_110 rfl ?_
          refine zz_iload_n (npc := 113) 1 rfl rfl dX8_mate_112 rfl ?_
          refine zz_icmp_ne (tgt := 121) (npc := 116) dX8_mate_113 (by decide) rfl ?_ ?_
          · refine zz_bipush (npc := 123) (-2) (by decide) dX8_mate_121 rfl ?_
            exact zX8_mate_L123 E l k40 hk40 y1 y2 y4 y5 (-2) M11
          · refine zz_iload (npc := 118) 3 rfl dX8_mate_116 rfl ?_
            refine zz_goto (npc := 0) (tgt := 123) dX8_mate_118 (by decide) ?_
            exact zX8_mate_L123 E l k40 hk40 y1 y2 y4 y5 y4 M11
        · refine zz_iload (npc := 96) 4 rfl dX8_mate_94 rfl ?_
          refine zz_iload (npc := 98) 3 rfl dX8_mate_96 rfl ?_
          refine zz_icmp_ne (tgt := 105) (npc := 101) dX8_mate_98 (by decide) rfl ?_ ?_
          · refine zz_iload (npc := 107) 4 rfl dX8_mate_105 rfl ?_
            refine zz_goto (npc := 0) (tgt := 123) dX8_mate_107 (by decide) ?_
            exact zX8_mate_L123 E l k40 hk40 y1 y2 y4 y5 y5 M11
          · refine zz_iconst (npc := 102) (-1) (by decide) dX8_mate_101 rfl ?_
            refine zz_goto (npc := 0) (tgt := 123) dX8_mate_102 (by decide) ?_
            exact zX8_mate_L123 E l k40 hk40 y1 y2 y4 y5 (-1) M11
      · exact zX8_mate_L82 E l (fX8_mate_L56 k40 n) ih y1 y2 y4 y5 M11
noncomputable def fX8_mate_L40   : Nat → Int32 → Int32 → Int32 → Mem → Option (Int32 × Mem)
  | 0, _, _, _, _ => none
  | n + 1, y1, y2, y3, M => (if y3 = (-2) then (bd (fX8_lowest y2 M) fun r8 M7 => (fX8_mate_L56 (fX8_mate_L40  n) fu y1 y2 r8 r8 M7)) else (some (y3, M)))
set_option maxHeartbeats 4000000 in
set_option maxRecDepth 100000 in
theorem zX8_mate_L40 (E : EV) (l : Launch)     : ∀ (n : Nat) (y1 : Int32) (y2 : Int32) (y3 : Int32) (M : Mem), ZZ E l RX8 cX8_mate 6 (some .int) wsX8_mate rmX8_mate vI (fX8_mate_L40 n y1 y2 y3 M) M [(0, .ref (eA E 57)), (1, .int y1), (2, .int y2), (3, .int y3)] 40 [] := by
  intro n
  induction n with
  | zero => intros; exact zz_none
  | succ n ih =>
    intro y1 y2 y3 M
    rw [fX8_mate_L40]
    refine zz_iload_n (npc := 41) 3 rfl rfl dX8_mate_40 rfl ?_
    refine zz_bipush (npc := 43) (-2) (by decide) dX8_mate_41 rfl ?_
    refine zz_icmp_ne (tgt := 143) (npc := 46) dX8_mate_43 (by decide) rfl ?_ ?_
    · refine zz_iload_n (npc := 144) 3 rfl rfl dX8_mate_143 rfl ?_
      exact zz_iret dX8_mate_144
    · refine zz_iload_n (npc := 47) 2 rfl rfl dX8_mate_46 rfl ?_
      refine zz_callSi (npc := 50) (n := 1) (As := [.int y2]) gX8_mate_X8_lowest rfl rfl rfl (by decide +kernel) ⟨Nat.le_of_ble_eq_true rfl, Nat.le_of_ble_eq_true rfl⟩ rfl rfl (Nat.le_of_ble_eq_true rfl) (mtX8_lowest E l  y2 M) dX8_mate_47 rfl (fun r8 M7 _ => ?_)
      refine zz_istore (npc := 52) (lv1 := [(4, .int r8), (0, .ref (eA E 57)), (1, .int y1), (2, .int y2), (3, .int y3)]) dX8_mate_50 rfl (by decide) rfl ?_
      refine zz_iload (npc := 54) 0 rfl dX8_mate_52 rfl ?_
      refine zz_istore (npc := 56) (lv1 := [(5, .int r8), (4, .int r8), (0, .ref (eA E 57)), (1, .int y1), (2, .int y2), (3, .int y3)]) dX8_mate_54 rfl (by decide) rfl ?_
      refine zz_sub (npc := 0) (lv1 := [(0, .ref (eA E 57)), (1, .int y1), (2, .int y2), (4, .int r8), (5, .int r8)]) [2, 3, 4, 1, 0] rfl ?_
      exact zX8_mate_L56 E l (fX8_mate_L40  n) ih fu y1 y2 r8 r8 M7
noncomputable def fX8_mate_L36   (y1 : Int32) (w0 : Int32) (M : Mem) : Option (Int32 × Mem) := (fX8_mate_L40  fu y1 w0 (-2) M)
set_option maxHeartbeats 4000000 in
set_option maxRecDepth 100000 in
theorem zX8_mate_L36 (E : EV) (l : Launch)     : ∀ (y1 : Int32) (w0 : Int32) (M : Mem), ZZ E l RX8 cX8_mate 6 (some .int) wsX8_mate rmX8_mate vI (fX8_mate_L36 y1 w0 M) M [(0, .ref (eA E 57)), (1, .int y1)] 36 [.int w0] := by
  intro y1 w0 M
  unfold fX8_mate_L36
  refine zz_istore_n (npc := 37) (lv1 := [(2, .int w0), (0, .ref (eA E 57)), (1, .int y1)]) rfl dX8_mate_36 rfl (by decide) rfl ?_
  refine zz_bipush (npc := 39) (-2) (by decide) dX8_mate_37 rfl ?_
  refine zz_istore_n (npc := 40) (lv1 := [(3, .int (-2)), (2, .int w0), (0, .ref (eA E 57)), (1, .int y1)]) rfl dX8_mate_39 rfl (by decide) rfl ?_
  refine zz_sub (npc := 0) (lv1 := [(0, .ref (eA E 57)), (1, .int y1), (2, .int w0), (3, .int (-2))]) [2, 3, 1, 0] rfl ?_
  exact zX8_mate_L40 E l  fu y1 w0 (-2) M
noncomputable def fX8_mate  (x1 : Int32) (M : Mem) : Option (Int32 × Mem) := (bd (fX8_isPerson x1 M) fun r2 M1 => (if r2 = 0 then (bd (fX8_finding (-1000001) M1) fun r6 M5 => (some (r6, M5))) else (bd (fX8_findPairs M1) fun r4 M3 => (if 0 ≤ r4 then (ck (inb 4 56) (fX8_mate_L36  x1 ((shl 1 (M3 58 (ix 4))) - 1) M3)) else (fX8_mate_L36  x1 0 M3)))))
set_option maxHeartbeats 4000000 in
set_option maxRecDepth 100000 in
theorem mtX8_mate (E : EV) (l : Launch)   (x1 : Int32) (M : Mem) : CT E l yX8_mate wsX8_mate rmX8_mate vI [.ref (eA E 57), .int x1] (fX8_mate x1 M) M := by
  refine ct_of (cc := cX8_mate) (nL := 6) (ret := (some .int)) (by decide +kernel) rfl (Nat.le_of_ble_eq_true rfl) ?_
  show ZZ E l RX8 cX8_mate 6 (some .int) wsX8_mate rmX8_mate vI (fX8_mate x1 M) M [(0, .ref (eA E 57)), (1, .int x1)] 0 []
  unfold fX8_mate
  refine zz_aload_n (npc := 1) 0 rfl rfl dX8_mate_0 rfl ?_
  refine zz_iload_n (npc := 2) 1 rfl rfl dX8_mate_1 rfl ?_
  refine zz_callVi (npc := 5) (n := 1) (As := [.int x1]) (by decide) (by rfl) rfl gX8_mate_X8_isPerson rfl rfl rfl (by decide +kernel) ⟨Nat.le_of_ble_eq_true rfl, Nat.le_of_ble_eq_true rfl⟩ rfl rfl (Nat.le_of_ble_eq_true rfl) (mtX8_isPerson E l  x1 M) dX8_mate_2 rfl (fun r2 M1 _ => ?_)
  refine zz_if_ne (tgt := 15) (npc := 8) dX8_mate_5 (by decide) rfl ?_ ?_
  · refine zz_aload_n (npc := 16) 0 rfl rfl dX8_mate_15 rfl ?_
    refine zz_callVi (npc := 19) (n := 0) (As := []) (by decide) (by rfl) rfl gX8_mate_X8_findPairs rfl rfl rfl (by decide +kernel) ⟨Nat.le_of_ble_eq_true rfl, Nat.le_of_ble_eq_true rfl⟩ rfl rfl (Nat.le_of_ble_eq_true rfl) (mtX8_findPairs E l   M1) dX8_mate_16 rfl (fun r4 M3 _ => ?_)
    refine zz_if_ge (tgt := 26) (npc := 22) dX8_mate_19 (by decide) rfl ?_ ?_
    · refine zz_iconst (npc := 27) 1 (by decide) dX8_mate_26 rfl ?_
      refine zz_aload_n (npc := 28) 0 rfl rfl dX8_mate_27 rfl ?_
      refine zz_getR (npc := 31) (i := 0) (C0 := RX8) (T := TX8) (N := 29) (by decide) (by rfl) rfl (by decide) iX8_mate_8 (List.mem_of_getElem? (i := 2) rfl) rfl dX8_mate_28 rfl ?_
      refine zz_iconst (npc := 32) 4 (by decide) dX8_mate_31 rfl ?_
      refine zz_iald (npc := 33) (by decide) (by rfl) dX8_mate_32 rfl ?_
      refine zz_ishl (npc := 34) dX8_mate_33 rfl ?_
      refine zz_iconst (npc := 35) 1 (by decide) dX8_mate_34 rfl ?_
      refine zz_isub (npc := 36) dX8_mate_35 rfl ?_
      exact zX8_mate_L36 E l  x1 ((shl 1 (M3 58 (ix 4))) - 1) M3
    · refine zz_iconst (npc := 23) 0 (by decide) dX8_mate_22 rfl ?_
      refine zz_goto (npc := 0) (tgt := 36) dX8_mate_23 (by decide) ?_
      exact zX8_mate_L36 E l  x1 0 M3
  · refine zz_aload_n (npc := 9) 0 rfl rfl dX8_mate_8 rfl ?_
    refine zz_ldc (npc := 11) (-1000001) (List.mem_of_getElem? (i := 1) rfl) dX8_mate_9 rfl ?_
    refine zz_callVi (npc := 14) (n := 1) (As := [.int (-1000001)]) (by decide) (by rfl) rfl gX8_mate_X8_finding rfl rfl rfl (by decide +kernel) ⟨Nat.le_of_ble_eq_true rfl, Nat.le_of_ble_eq_true rfl⟩ rfl rfl (Nat.le_of_ble_eq_true rfl) (mtX8_finding E l  (-1000001) M1) dX8_mate_11 rfl (fun r6 M5 _ => ?_)
    exact zz_iret dX8_mate_14
abbrev rmX8_ways : Room := { frames := 6, cells := 0, slots := 0, locals := 136 }
theorem iX8_ways_8 : ∀ w ∈ u_ws RX8 TX8 29, w ∈ wsX8_ways := fun w h => List.mem_cons_of_mem _ (List.mem_append_right _ h)
noncomputable def fX8_ways   (M : Mem) : Option (Int32 × Mem) := (bd (fX8_findPairs M) fun r2 M1 => (if 0 ≤ r2 then (ck (inb 4 56) (ck (inb ((shl 1 (M1 58 (ix 4))) - 1) 256) (some (M1 64 (ix ((shl 1 (M1 58 (ix 4))) - 1)), M1)))) else (some (0, M1))))
set_option maxHeartbeats 4000000 in
set_option maxRecDepth 100000 in
theorem mtX8_ways (E : EV) (l : Launch)    (M : Mem) : CT E l yX8_ways wsX8_ways rmX8_ways vI [.ref (eA E 57)] (fX8_ways  M) M := by
  refine ct_of (cc := cX8_ways) (nL := 1) (ret := (some .int)) (by decide +kernel) rfl (Nat.le_of_ble_eq_true rfl) ?_
  show ZZ E l RX8 cX8_ways 1 (some .int) wsX8_ways rmX8_ways vI (fX8_ways  M) M [(0, .ref (eA E 57))] 0 []
  unfold fX8_ways
  refine zz_aload_n (npc := 1) 0 rfl rfl dX8_ways_0 rfl ?_
  refine zz_callVi (npc := 4) (n := 0) (As := []) (by decide) (by rfl) rfl gX8_ways_X8_findPairs rfl rfl rfl (by decide +kernel) ⟨Nat.le_of_ble_eq_true rfl, Nat.le_of_ble_eq_true rfl⟩ rfl rfl (Nat.le_of_ble_eq_true rfl) (mtX8_findPairs E l   M) dX8_ways_1 rfl (fun r2 M1 _ => ?_)
  refine zz_if_ge (tgt := 11) (npc := 7) dX8_ways_4 (by decide) rfl ?_ ?_
  · refine zz_aload_n (npc := 12) 0 rfl rfl dX8_ways_11 rfl ?_
    refine zz_getR (npc := 15) (i := 11) (C0 := RX8) (T := TX8) (N := 29) (by decide) (by rfl) rfl (by decide) iX8_ways_8 (List.mem_of_getElem? (i := 1) rfl) rfl dX8_ways_12 rfl ?_
    refine zz_iconst (npc := 16) 1 (by decide) dX8_ways_15 rfl ?_
    refine zz_aload_n (npc := 17) 0 rfl rfl dX8_ways_16 rfl ?_
    refine zz_getR (npc := 20) (i := 0) (C0 := RX8) (T := TX8) (N := 29) (by decide) (by rfl) rfl (by decide) iX8_ways_8 (List.mem_of_getElem? (i := 2) rfl) rfl dX8_ways_17 rfl ?_
    refine zz_iconst (npc := 21) 4 (by decide) dX8_ways_20 rfl ?_
    refine zz_iald (npc := 22) (by decide) (by rfl) dX8_ways_21 rfl ?_
    refine zz_ishl (npc := 23) dX8_ways_22 rfl ?_
    refine zz_iconst (npc := 24) 1 (by decide) dX8_ways_23 rfl ?_
    refine zz_isub (npc := 25) dX8_ways_24 rfl ?_
    refine zz_iald (npc := 26) (by decide) (by rfl) dX8_ways_25 rfl ?_
    exact zz_iret dX8_ways_26
  · refine zz_iconst (npc := 8) 0 (by decide) dX8_ways_7 rfl ?_
    refine zz_goto (npc := 0) (tgt := 26) dX8_ways_8 (by decide) ?_
    exact zz_iret dX8_ways_26
abbrev rmX8_wouldBreak : Room := { frames := 8, cells := 0, slots := 0, locals := 187 }
theorem iX8_wouldBreak_8 : ∀ w ∈ u_ws RX8 TX8 29, w ∈ wsX8_wouldBreak := fun w h => List.mem_cons_of_mem _ (List.mem_append_right _ h)
noncomputable def fX8_wouldBreak_L61   (y2 : Int32) (y3 : Int32) (y4 : Int32) (y5 : Int32) (w0 : Int32) (M : Mem) : Option (Int32 × Mem) := (bd (fX8_findRest y2 M) fun _ M12 => (if w0 = 0 then (ck (isb 0) (some (0, M12))) else (bd (fX8_needsIn y2 ((y4 &&& (y3 ^^^ (-1))) ||| y5) M12) fun r14 M13 => (if r14 ≤ (M13 57 7) then (ck (isb 0) (some (0, M13))) else (ck (isb 1) (some (1, M13)))))))
set_option maxHeartbeats 4000000 in
set_option maxRecDepth 100000 in
theorem zX8_wouldBreak_L61 (E : EV) (l : Launch)     : ∀ (y2 : Int32) (y3 : Int32) (y4 : Int32) (y5 : Int32) (w0 : Int32) (M : Mem), ZZ E l RX8 cX8_wouldBreak 7 (some .boolean) wsX8_wouldBreak rmX8_wouldBreak vI (fX8_wouldBreak_L61 y2 y3 y4 y5 w0 M) M [(0, .ref (eA E 57)), (2, .int y2), (3, .int y3), (4, .int y4), (5, .int y5)] 61 [.int w0] := by
  intro y2 y3 y4 y5 w0 M
  unfold fX8_wouldBreak_L61
  refine zz_istore (npc := 63) (lv1 := [(6, .int w0), (0, .ref (eA E 57)), (2, .int y2), (3, .int y3), (4, .int y4), (5, .int y5)]) dX8_wouldBreak_61 rfl (by decide) rfl ?_
  refine zz_aload_n (npc := 64) 1 rfl rfl dX8_wouldBreak_63 rfl ?_
  refine zz_iload_n (npc := 65) 2 rfl rfl dX8_wouldBreak_64 rfl ?_
  refine zz_callVv (npc := 68) (n := 1) (As := [.int y2]) (by decide) (by rfl) rfl gX8_wouldBreak_X8_findRest rfl rfl rfl (by decide +kernel) ⟨Nat.le_of_ble_eq_true rfl, Nat.le_of_ble_eq_true rfl⟩ rfl rfl (Nat.le_of_ble_eq_true rfl) (mtX8_findRest E l  y2 M) dX8_wouldBreak_65 rfl (fun _ M12 _ => ?_)
  refine zz_iload (npc := 70) 0 rfl dX8_wouldBreak_68 rfl ?_
  refine zz_if_eq (tgt := 98) (npc := 73) dX8_wouldBreak_70 (by decide) rfl ?_ ?_
  · refine zz_iconst (npc := 99) 0 (by decide) dX8_wouldBreak_98 rfl ?_
    exact zz_zret dX8_wouldBreak_99
  · refine zz_aload_n (npc := 74) 1 rfl rfl dX8_wouldBreak_73 rfl ?_
    refine zz_iload_n (npc := 75) 2 rfl rfl dX8_wouldBreak_74 rfl ?_
    refine zz_iload (npc := 77) 4 rfl dX8_wouldBreak_75 rfl ?_
    refine zz_iload_n (npc := 78) 3 rfl rfl dX8_wouldBreak_77 rfl ?_
    refine zz_iconst (npc := 79) (-1) (by decide) dX8_wouldBreak_78 rfl ?_
    refine zz_ixor (npc := 80) dX8_wouldBreak_79 rfl ?_
    refine zz_iand (npc := 81) dX8_wouldBreak_80 rfl ?_
    refine zz_iload (npc := 83) 5 rfl dX8_wouldBreak_81 rfl ?_
    refine zz_ior (npc := 84) dX8_wouldBreak_83 rfl ?_
    refine zz_callVi (npc := 87) (n := 2) (As := [.int y2, .int ((y4 &&& (y3 ^^^ (-1))) ||| y5)]) (by decide) (by rfl) rfl gX8_wouldBreak_X8_needsIn rfl rfl rfl (by decide +kernel) ⟨Nat.le_of_ble_eq_true rfl, Nat.le_of_ble_eq_true rfl⟩ rfl rfl (Nat.le_of_ble_eq_true rfl) (mtX8_needsIn E l  y2 ((y4 &&& (y3 ^^^ (-1))) ||| y5) M12) dX8_wouldBreak_84 rfl (fun r14 M13 _ => ?_)
    refine zz_aload_n (npc := 88) 1 rfl rfl dX8_wouldBreak_87 rfl ?_
    refine zz_getI (npc := 91) (i := 7) (C0 := RX8) (T := TX8) (N := 29) (by decide) (by rfl) rfl (by decide) iX8_wouldBreak_8 (List.mem_of_getElem? (i := 2) rfl) rfl dX8_wouldBreak_88 rfl ?_
    refine zz_icmp_le (tgt := 98) (npc := 94) dX8_wouldBreak_91 (by decide) rfl ?_ ?_
    · refine zz_iconst (npc := 99) 0 (by decide) dX8_wouldBreak_98 rfl ?_
      exact zz_zret dX8_wouldBreak_99
    · refine zz_iconst (npc := 95) 1 (by decide) dX8_wouldBreak_94 rfl ?_
      refine zz_goto (npc := 0) (tgt := 99) dX8_wouldBreak_95 (by decide) ?_
      exact zz_zret dX8_wouldBreak_99
noncomputable def fX8_wouldBreak  (x1 : Int32) (x2 : Int32) (M : Mem) : Option (Int32 × Mem) := (bd (fX8_heldByLess x1 x2 M) fun r2 M1 => (bd (fX8_restHours M1) fun r4 M3 => (ck (inb 3 56) (bv (r4 &&& (M3 58 (ix 3))) fun v5 => (bd (fX8_restHours M3) fun r7 M6 => (ck (inb 3 56) (bv (r7 &&& ((M6 58 (ix 3)) ^^^ (-1))) fun v8 => (bd (fX8_findRest x1 M6) fun _ M9 => (bd (fX8_needsIn x1 (r2 ||| v8) M9) fun r11 M10 => (if r11 ≤ (M10 57 7) then (fX8_wouldBreak_L61  x2 r2 v5 v8 0 M10) else (fX8_wouldBreak_L61  x2 r2 v5 v8 1 M10)))))))))))
set_option maxHeartbeats 4000000 in
set_option maxRecDepth 100000 in
theorem mtX8_wouldBreak (E : EV) (l : Launch)   (x1 : Int32) (x2 : Int32) (M : Mem) : CT E l yX8_wouldBreak wsX8_wouldBreak rmX8_wouldBreak vI [.ref (eA E 57), .int x1, .int x2] (fX8_wouldBreak x1 x2 M) M := by
  refine ct_of (cc := cX8_wouldBreak) (nL := 7) (ret := (some .boolean)) (by decide +kernel) rfl (Nat.le_of_ble_eq_true rfl) ?_
  show ZZ E l RX8 cX8_wouldBreak 7 (some .boolean) wsX8_wouldBreak rmX8_wouldBreak vI (fX8_wouldBreak x1 x2 M) M [(0, .ref (eA E 57)), (1, .int x1), (2, .int x2)] 0 []
  unfold fX8_wouldBreak
  refine zz_aload_n (npc := 1) 0 rfl rfl dX8_wouldBreak_0 rfl ?_
  refine zz_iload_n (npc := 2) 1 rfl rfl dX8_wouldBreak_1 rfl ?_
  refine zz_iload_n (npc := 3) 2 rfl rfl dX8_wouldBreak_2 rfl ?_
  refine zz_callVi (npc := 6) (n := 2) (As := [.int x1, .int x2]) (by decide) (by rfl) rfl gX8_wouldBreak_X8_heldByLess rfl rfl rfl (by decide +kernel) ⟨Nat.le_of_ble_eq_true rfl, Nat.le_of_ble_eq_true rfl⟩ rfl rfl (Nat.le_of_ble_eq_true rfl) (mtX8_heldByLess E l  x1 x2 M) dX8_wouldBreak_3 rfl (fun r2 M1 _ => ?_)
  refine zz_istore_n (npc := 7) (lv1 := [(3, .int r2), (0, .ref (eA E 57)), (1, .int x1), (2, .int x2)]) rfl dX8_wouldBreak_6 rfl (by decide) rfl ?_
  refine zz_aload_n (npc := 8) 1 rfl rfl dX8_wouldBreak_7 rfl ?_
  refine zz_callVi (npc := 11) (n := 0) (As := []) (by decide) (by rfl) rfl gX8_wouldBreak_X8_restHours rfl rfl rfl (by decide +kernel) ⟨Nat.le_of_ble_eq_true rfl, Nat.le_of_ble_eq_true rfl⟩ rfl rfl (Nat.le_of_ble_eq_true rfl) (mtX8_restHours E l   M1) dX8_wouldBreak_8 rfl (fun r4 M3 _ => ?_)
  refine zz_aload_n (npc := 12) 1 rfl rfl dX8_wouldBreak_11 rfl ?_
  refine zz_getR (npc := 15) (i := 0) (C0 := RX8) (T := TX8) (N := 29) (by decide) (by rfl) rfl (by decide) iX8_wouldBreak_8 (List.mem_of_getElem? (i := 1) rfl) rfl dX8_wouldBreak_12 rfl ?_
  refine zz_iconst (npc := 16) 3 (by decide) dX8_wouldBreak_15 rfl ?_
  refine zz_iald (npc := 17) (by decide) (by rfl) dX8_wouldBreak_16 rfl ?_
  refine zz_iand (npc := 18) dX8_wouldBreak_17 rfl ?_
  refine zz_istoreB (npc := 20) (lv1 := fun v5 => [(4, .int v5), (3, .int r2), (0, .ref (eA E 57)), (1, .int x1), (2, .int x2)]) dX8_wouldBreak_18 rfl (by decide) (fun _ => rfl) (fun v5 => ?_)
  refine zz_aload_n (npc := 21) 2 rfl rfl dX8_wouldBreak_20 rfl ?_
  refine zz_callVi (npc := 24) (n := 0) (As := []) (by decide) (by rfl) rfl gX8_wouldBreak_X8_restHours rfl rfl rfl (by decide +kernel) ⟨Nat.le_of_ble_eq_true rfl, Nat.le_of_ble_eq_true rfl⟩ rfl rfl (Nat.le_of_ble_eq_true rfl) (mtX8_restHours E l   M3) dX8_wouldBreak_21 rfl (fun r7 M6 _ => ?_)
  refine zz_aload_n (npc := 25) 2 rfl rfl dX8_wouldBreak_24 rfl ?_
  refine zz_getR (npc := 28) (i := 0) (C0 := RX8) (T := TX8) (N := 29) (by decide) (by rfl) rfl (by decide) iX8_wouldBreak_8 (List.mem_of_getElem? (i := 1) rfl) rfl dX8_wouldBreak_25 rfl ?_
  refine zz_iconst (npc := 29) 3 (by decide) dX8_wouldBreak_28 rfl ?_
  refine zz_iald (npc := 30) (by decide) (by rfl) dX8_wouldBreak_29 rfl ?_
  refine zz_iconst (npc := 31) (-1) (by decide) dX8_wouldBreak_30 rfl ?_
  refine zz_ixor (npc := 32) dX8_wouldBreak_31 rfl ?_
  refine zz_iand (npc := 33) dX8_wouldBreak_32 rfl ?_
  refine zz_istoreB (npc := 35) (lv1 := fun v8 => [(5, .int v8), (4, .int v5), (3, .int r2), (0, .ref (eA E 57)), (1, .int x1), (2, .int x2)]) dX8_wouldBreak_33 rfl (by decide) (fun _ => rfl) (fun v8 => ?_)
  refine zz_aload_n (npc := 36) 3 rfl rfl dX8_wouldBreak_35 rfl ?_
  refine zz_iload_n (npc := 37) 4 rfl rfl dX8_wouldBreak_36 rfl ?_
  refine zz_callVv (npc := 40) (n := 1) (As := [.int x1]) (by decide) (by rfl) rfl gX8_wouldBreak_X8_findRest rfl rfl rfl (by decide +kernel) ⟨Nat.le_of_ble_eq_true rfl, Nat.le_of_ble_eq_true rfl⟩ rfl rfl (Nat.le_of_ble_eq_true rfl) (mtX8_findRest E l  x1 M6) dX8_wouldBreak_37 rfl (fun _ M9 _ => ?_)
  refine zz_aload_n (npc := 41) 3 rfl rfl dX8_wouldBreak_40 rfl ?_
  refine zz_iload_n (npc := 42) 4 rfl rfl dX8_wouldBreak_41 rfl ?_
  refine zz_iload_n (npc := 43) 2 rfl rfl dX8_wouldBreak_42 rfl ?_
  refine zz_iload (npc := 45) 0 rfl dX8_wouldBreak_43 rfl ?_
  refine zz_ior (npc := 46) dX8_wouldBreak_45 rfl ?_
  refine zz_callVi (npc := 49) (n := 2) (As := [.int x1, .int (r2 ||| v8)]) (by decide) (by rfl) rfl gX8_wouldBreak_X8_needsIn rfl rfl rfl (by decide +kernel) ⟨Nat.le_of_ble_eq_true rfl, Nat.le_of_ble_eq_true rfl⟩ rfl rfl (Nat.le_of_ble_eq_true rfl) (mtX8_needsIn E l  x1 (r2 ||| v8) M9) dX8_wouldBreak_46 rfl (fun r11 M10 _ => ?_)
  refine zz_aload_n (npc := 50) 3 rfl rfl dX8_wouldBreak_49 rfl ?_
  refine zz_getI (npc := 53) (i := 7) (C0 := RX8) (T := TX8) (N := 29) (by decide) (by rfl) rfl (by decide) iX8_wouldBreak_8 (List.mem_of_getElem? (i := 2) rfl) rfl dX8_wouldBreak_50 rfl ?_
  refine zz_icmp_le (tgt := 60) (npc := 56) dX8_wouldBreak_53 (by decide) rfl ?_ ?_
  · refine zz_iconst (npc := 61) 0 (by decide) dX8_wouldBreak_60 rfl ?_
    refine zz_sub (npc := 0) (lv1 := [(0, .ref (eA E 57)), (2, .int x2), (3, .int r2), (4, .int v5), (5, .int v8)]) [3, 5, 2, 1, 0] rfl ?_
    exact zX8_wouldBreak_L61 E l  x2 r2 v5 v8 0 M10
  · refine zz_iconst (npc := 57) 1 (by decide) dX8_wouldBreak_56 rfl ?_
    refine zz_goto (npc := 0) (tgt := 61) dX8_wouldBreak_57 (by decide) ?_
    refine zz_sub (npc := 0) (lv1 := [(0, .ref (eA E 57)), (2, .int x2), (3, .int r2), (4, .int v5), (5, .int v8)]) [3, 5, 2, 1, 0] rfl ?_
    exact zX8_wouldBreak_L61 E l  x2 r2 v5 v8 1 M10
abbrev rmX8_broken : Room := { frames := 9, cells := 0, slots := 0, locals := 213 }
theorem iX8_broken_8 : ∀ w ∈ u_ws RX8 TX8 29, w ∈ wsX8_broken := fun w h => List.mem_cons_of_mem _ (List.mem_append_right _ h)
noncomputable def fX8_broken_L61  (k18 : Int32 → Int32 → Int32 → Mem → Option (Int32 × Mem)) (y2 : Int32) (y3 : Int32) (w0 : Int32) (M : Mem) : Option (Int32 × Mem) := (bv (y3 + 1) fun v9 => (k18 w0 y2 v9 M))
set_option maxHeartbeats 4000000 in
set_option maxRecDepth 100000 in
theorem zX8_broken_L61 (E : EV) (l : Launch)   (k18 : Int32 → Int32 → Int32 → Mem → Option (Int32 × Mem)) (hk18 : ∀ (y1_ : Int32) (y2_ : Int32) (y3_ : Int32) (M_ : Mem), ZZ E l RX8 cX8_broken 4 (some .int) wsX8_broken rmX8_broken vI (k18 y1_ y2_ y3_ M_) M_ [(0, .ref (eA E 57)), (1, .int y1_), (2, .int y2_), (3, .int y3_)] 18 []) : ∀ (y2 : Int32) (y3 : Int32) (w0 : Int32) (M : Mem), ZZ E l RX8 cX8_broken 4 (some .int) wsX8_broken rmX8_broken vI (fX8_broken_L61 k18 y2 y3 w0 M) M [(0, .ref (eA E 57)), (2, .int y2), (3, .int y3)] 61 [.int w0] := by
  intro y2 y3 w0 M
  unfold fX8_broken_L61
  refine zz_istore_n (npc := 62) (lv1 := [(1, .int w0), (0, .ref (eA E 57)), (2, .int y2), (3, .int y3)]) rfl dX8_broken_61 rfl (by decide) rfl ?_
  refine zz_iincB (npc := 65) (y3 + 1) (lv1 := fun v9 => [(3, .int v9), (1, .int w0), (0, .ref (eA E 57)), (2, .int y2)]) dX8_broken_62 rfl 3 rfl rfl (by decide) (fun _ => rfl) (fun v9 => ?_)
  refine zz_goto (npc := 0) (tgt := 18) dX8_broken_65 (by decide) ?_
  refine zz_sub (npc := 0) (lv1 := [(0, .ref (eA E 57)), (1, .int w0), (2, .int y2), (3, .int v9)]) [2, 1, 3, 0] rfl ?_
  exact hk18 w0 y2 v9 M
noncomputable def fX8_broken_L60  (k18 : Int32 → Int32 → Int32 → Mem → Option (Int32 × Mem)) (y2 : Int32) (y3 : Int32) (M : Mem) : Option (Int32 × Mem) := (fX8_broken_L61 k18 y2 y3 (-1) M)
set_option maxHeartbeats 4000000 in
set_option maxRecDepth 100000 in
theorem zX8_broken_L60 (E : EV) (l : Launch)   (k18 : Int32 → Int32 → Int32 → Mem → Option (Int32 × Mem)) (hk18 : ∀ (y1_ : Int32) (y2_ : Int32) (y3_ : Int32) (M_ : Mem), ZZ E l RX8 cX8_broken 4 (some .int) wsX8_broken rmX8_broken vI (k18 y1_ y2_ y3_ M_) M_ [(0, .ref (eA E 57)), (1, .int y1_), (2, .int y2_), (3, .int y3_)] 18 []) : ∀ (y2 : Int32) (y3 : Int32) (M : Mem), ZZ E l RX8 cX8_broken 4 (some .int) wsX8_broken rmX8_broken vI (fX8_broken_L60 k18 y2 y3 M) M [(0, .ref (eA E 57)), (2, .int y2), (3, .int y3)] 60 [] := by
  intro y2 y3 M
  unfold fX8_broken_L60
  refine zz_iconst (npc := 61) (-1) (by decide) dX8_broken_60 rfl ?_
  exact zX8_broken_L61 E l k18 hk18 y2 y3 (-1) M
noncomputable def fX8_broken_L68  (k4 : Int32 → Int32 → Mem → Option (Int32 × Mem)) (y1 : Int32) (y2 : Int32) (M : Mem) : Option (Int32 × Mem) := (bv (y2 + 1) fun v8 => (k4 y1 v8 M))
set_option maxHeartbeats 4000000 in
set_option maxRecDepth 100000 in
theorem zX8_broken_L68 (E : EV) (l : Launch)   (k4 : Int32 → Int32 → Mem → Option (Int32 × Mem)) (hk4 : ∀ (y1_ : Int32) (y2_ : Int32) (M_ : Mem), ZZ E l RX8 cX8_broken 4 (some .int) wsX8_broken rmX8_broken vI (k4 y1_ y2_ M_) M_ [(0, .ref (eA E 57)), (1, .int y1_), (2, .int y2_)] 4 []) : ∀ (y1 : Int32) (y2 : Int32) (M : Mem), ZZ E l RX8 cX8_broken 4 (some .int) wsX8_broken rmX8_broken vI (fX8_broken_L68 k4 y1 y2 M) M [(0, .ref (eA E 57)), (1, .int y1), (2, .int y2)] 68 [] := by
  intro y1 y2 M
  unfold fX8_broken_L68
  refine zz_iincB (npc := 71) (y2 + 1) (lv1 := fun v8 => [(2, .int v8), (0, .ref (eA E 57)), (1, .int y1)]) dX8_broken_68 rfl 2 rfl rfl (by decide) (fun _ => rfl) (fun v8 => ?_)
  refine zz_goto (npc := 0) (tgt := 4) dX8_broken_71 (by decide) ?_
  refine zz_sub (npc := 0) (lv1 := [(0, .ref (eA E 57)), (1, .int y1), (2, .int v8)]) [1, 2, 0] rfl ?_
  exact hk4 y1 v8 M
noncomputable def fX8_broken_L18  (k4 : Int32 → Int32 → Mem → Option (Int32 × Mem)) : Nat → Int32 → Int32 → Int32 → Mem → Option (Int32 × Mem)
  | 0, _, _, _, _ => none
  | n + 1, y1, y2, y3, M => (ck (inb 4 56) (if (M 58 (ix 4)) ≤ y3 then (fX8_broken_L68 k4 y1 y2 M) else (if 0 ≤ y1 then (fX8_broken_L68 k4 y1 y2 M) else (bd (fX8_personIs y2 4 M) fun r5 M4 => (if r5 = y3 then (fX8_broken_L60 (fX8_broken_L18 k4 n) y2 y3 M4) else (bd (fX8_wouldBreak y2 y3 M4) fun r7 M6 => (if r7 = 0 then (fX8_broken_L60 (fX8_broken_L18 k4 n) y2 y3 M6) else (fX8_broken_L61 (fX8_broken_L18 k4 n) y2 y3 ((10 * y2) + y3) M6))))))))
set_option maxHeartbeats 4000000 in
set_option maxRecDepth 100000 in
theorem zX8_broken_L18 (E : EV) (l : Launch)   (k4 : Int32 → Int32 → Mem → Option (Int32 × Mem)) (hk4 : ∀ (y1_ : Int32) (y2_ : Int32) (M_ : Mem), ZZ E l RX8 cX8_broken 4 (some .int) wsX8_broken rmX8_broken vI (k4 y1_ y2_ M_) M_ [(0, .ref (eA E 57)), (1, .int y1_), (2, .int y2_)] 4 []) : ∀ (n : Nat) (y1 : Int32) (y2 : Int32) (y3 : Int32) (M : Mem), ZZ E l RX8 cX8_broken 4 (some .int) wsX8_broken rmX8_broken vI (fX8_broken_L18 k4 n y1 y2 y3 M) M [(0, .ref (eA E 57)), (1, .int y1), (2, .int y2), (3, .int y3)] 18 [] := by
  intro n
  induction n with
  | zero => intros; exact zz_none
  | succ n ih =>
    intro y1 y2 y3 M
    rw [fX8_broken_L18]
    refine zz_iload_n (npc := 19) 3 rfl rfl dX8_broken_18 rfl ?_
    refine zz_aload_n (npc := 20) 0 rfl rfl dX8_broken_19 rfl ?_
    refine zz_getR (npc := 23) (i := 0) (C0 := RX8) (T := TX8) (N := 29) (by decide) (by rfl) rfl (by decide) iX8_broken_8 (List.mem_of_getElem? (i := 1) rfl) rfl dX8_broken_20 rfl ?_
    refine zz_iconst (npc := 24) 4 (by decide) dX8_broken_23 rfl ?_
    refine zz_iald (npc := 25) (by decide) (by rfl) dX8_broken_24 rfl ?_
    refine zz_icmp_ge (tgt := 68) (npc := 28) dX8_broken_25 (by decide) rfl ?_ ?_
    · refine zz_sub (npc := 0) (lv1 := [(0, .ref (eA E 57)), (1, .int y1), (2, .int y2)]) [0, 1, 2] rfl ?_
      exact zX8_broken_L68 E l k4 hk4 y1 y2 M
    · refine zz_iload_n (npc := 29) 1 rfl rfl dX8_broken_28 rfl ?_
      refine zz_if_ge (tgt := 68) (npc := 32) dX8_broken_29 (by decide) rfl ?_ ?_
      · refine zz_sub (npc := 0) (lv1 := [(0, .ref (eA E 57)), (1, .int y1), (2, .int y2)]) [0, 1, 2] rfl ?_
        exact zX8_broken_L68 E l k4 hk4 y1 y2 M
      · refine zz_aload_n (npc := 33) 0 rfl rfl dX8_broken_32 rfl ?_
        refine zz_iload_n (npc := 34) 2 rfl rfl dX8_broken_33 rfl ?_
        refine zz_iconst (npc := 35) 4 (by decide) dX8_broken_34 rfl ?_
        refine zz_callVi (npc := 38) (n := 2) (As := [.int y2, .int 4]) (by decide) (by rfl) rfl gX8_broken_X8_personIs rfl rfl rfl (by decide +kernel) ⟨Nat.le_of_ble_eq_true rfl, Nat.le_of_ble_eq_true rfl⟩ rfl rfl (Nat.le_of_ble_eq_true rfl) (mtX8_personIs E l  y2 4 M) dX8_broken_35 rfl (fun r5 M4 _ => ?_)
        refine zz_iload_n (npc := 39) 3 rfl rfl dX8_broken_38 rfl ?_
        refine zz_icmp_eq (tgt := 60) (npc := 42) dX8_broken_39 (by decide) rfl ?_ ?_
        · refine zz_sub (npc := 0) (lv1 := [(0, .ref (eA E 57)), (2, .int y2), (3, .int y3)]) [0, 2, 3] rfl ?_
          exact zX8_broken_L60 E l (fX8_broken_L18 k4 n) ih y2 y3 M4
        · refine zz_aload_n (npc := 43) 0 rfl rfl dX8_broken_42 rfl ?_
          refine zz_iload_n (npc := 44) 2 rfl rfl dX8_broken_43 rfl ?_
          refine zz_iload_n (npc := 45) 3 rfl rfl dX8_broken_44 rfl ?_
          refine zz_callVi (npc := 48) (n := 2) (As := [.int y2, .int y3]) (by decide) (by rfl) rfl gX8_broken_X8_wouldBreak rfl rfl rfl (by decide +kernel) ⟨Nat.le_of_ble_eq_true rfl, Nat.le_of_ble_eq_true rfl⟩ rfl rfl (Nat.le_of_ble_eq_true rfl) (mtX8_wouldBreak E l  y2 y3 M4) dX8_broken_45 rfl (fun r7 M6 _ => ?_)
          refine zz_if_eq (tgt := 60) (npc := 51) dX8_broken_48 (by decide) rfl ?_ ?_
          · refine zz_sub (npc := 0) (lv1 := [(0, .ref (eA E 57)), (2, .int y2), (3, .int y3)]) [0, 2, 3] rfl ?_
            exact zX8_broken_L60 E l (fX8_broken_L18 k4 n) ih y2 y3 M6
          · refine zz_bipush (npc := 53) 10 (by decide) dX8_broken_51 rfl ?_
            refine zz_iload_n (npc := 54) 2 rfl rfl dX8_broken_53 rfl ?_
            refine zz_imul (npc := 55) dX8_broken_54 rfl ?_
            refine zz_iload_n (npc := 56) 3 rfl rfl dX8_broken_55 rfl ?_
            refine zz_iadd (npc := 57) dX8_broken_56 rfl ?_
            refine zz_goto (npc := 0) (tgt := 61) dX8_broken_57 (by decide) ?_
            refine zz_sub (npc := 0) (lv1 := [(0, .ref (eA E 57)), (2, .int y2), (3, .int y3)]) [0, 2, 3] rfl ?_
            exact zX8_broken_L61 E l (fX8_broken_L18 k4 n) ih y2 y3 ((10 * y2) + y3) M6
noncomputable def fX8_broken_L4   : Nat → Int32 → Int32 → Mem → Option (Int32 × Mem)
  | 0, _, _, _ => none
  | n + 1, y1, y2, M => (ck (inb 4 56) (if (M 58 (ix 4)) ≤ y2 then (if 0 ≤ y1 then (some (y1, M)) else (bd (fX8_finding (-1000004) M) fun r2 M1 => (some (r2, M1)))) else (bv (y2 + 1) fun v3 => (fX8_broken_L18 (fX8_broken_L4  n) fu y1 y2 v3 M))))
set_option maxHeartbeats 4000000 in
set_option maxRecDepth 100000 in
theorem zX8_broken_L4 (E : EV) (l : Launch)     : ∀ (n : Nat) (y1 : Int32) (y2 : Int32) (M : Mem), ZZ E l RX8 cX8_broken 4 (some .int) wsX8_broken rmX8_broken vI (fX8_broken_L4 n y1 y2 M) M [(0, .ref (eA E 57)), (1, .int y1), (2, .int y2)] 4 [] := by
  intro n
  induction n with
  | zero => intros; exact zz_none
  | succ n ih =>
    intro y1 y2 M
    rw [fX8_broken_L4]
    refine zz_iload_n (npc := 5) 2 rfl rfl dX8_broken_4 rfl ?_
    refine zz_aload_n (npc := 6) 0 rfl rfl dX8_broken_5 rfl ?_
    refine zz_getR (npc := 9) (i := 0) (C0 := RX8) (T := TX8) (N := 29) (by decide) (by rfl) rfl (by decide) iX8_broken_8 (List.mem_of_getElem? (i := 1) rfl) rfl dX8_broken_6 rfl ?_
    refine zz_iconst (npc := 10) 4 (by decide) dX8_broken_9 rfl ?_
    refine zz_iald (npc := 11) (by decide) (by rfl) dX8_broken_10 rfl ?_
    refine zz_icmp_ge (tgt := 74) (npc := 14) dX8_broken_11 (by decide) rfl ?_ ?_
    · refine zz_iload_n (npc := 75) 1 rfl rfl dX8_broken_74 rfl ?_
      refine zz_if_ge (tgt := 87) (npc := 78) dX8_broken_75 (by decide) rfl ?_ ?_
      · refine zz_iload_n (npc := 88) 1 rfl rfl dX8_broken_87 rfl ?_
        exact zz_iret dX8_broken_88
      · refine zz_aload_n (npc := 79) 0 rfl rfl dX8_broken_78 rfl ?_
        refine zz_ldc (npc := 81) (-1000004) (List.mem_of_getElem? (i := 2) rfl) dX8_broken_79 rfl ?_
        refine zz_callVi (npc := 84) (n := 1) (As := [.int (-1000004)]) (by decide) (by rfl) rfl gX8_broken_X8_finding rfl rfl rfl (by decide +kernel) ⟨Nat.le_of_ble_eq_true rfl, Nat.le_of_ble_eq_true rfl⟩ rfl rfl (Nat.le_of_ble_eq_true rfl) (mtX8_finding E l  (-1000004) M) dX8_broken_81 rfl (fun r2 M1 _ => ?_)
        refine zz_goto (npc := 0) (tgt := 88) dX8_broken_84 (by decide) ?_
        exact zz_iret dX8_broken_88
    · refine zz_iload_n (npc := 15) 2 rfl rfl dX8_broken_14 rfl ?_
      refine zz_iconst (npc := 16) 1 (by decide) dX8_broken_15 rfl ?_
      refine zz_iadd (npc := 17) dX8_broken_16 rfl ?_
      refine zz_istore_nB (npc := 18) (lv1 := fun v3 => [(3, .int v3), (0, .ref (eA E 57)), (1, .int y1), (2, .int y2)]) rfl dX8_broken_17 rfl (by decide) (fun _ => rfl) (fun v3 => ?_)
      refine zz_sub (npc := 0) (lv1 := [(0, .ref (eA E 57)), (1, .int y1), (2, .int y2), (3, .int v3)]) [1, 2, 3, 0] rfl ?_
      exact zX8_broken_L18 E l (fX8_broken_L4  n) ih fu y1 y2 v3 M
noncomputable def fX8_broken   (M : Mem) : Option (Int32 × Mem) := (fX8_broken_L4  fu (-1) 0 M)
set_option maxHeartbeats 4000000 in
set_option maxRecDepth 100000 in
theorem mtX8_broken (E : EV) (l : Launch)    (M : Mem) : CT E l yX8_broken wsX8_broken rmX8_broken vI [.ref (eA E 57)] (fX8_broken  M) M := by
  refine ct_of (cc := cX8_broken) (nL := 4) (ret := (some .int)) (by decide +kernel) rfl (Nat.le_of_ble_eq_true rfl) ?_
  show ZZ E l RX8 cX8_broken 4 (some .int) wsX8_broken rmX8_broken vI (fX8_broken  M) M [(0, .ref (eA E 57))] 0 []
  unfold fX8_broken
  refine zz_iconst (npc := 1) (-1) (by decide) dX8_broken_0 rfl ?_
  refine zz_istore_n (npc := 2) (lv1 := [(1, .int (-1)), (0, .ref (eA E 57))]) rfl dX8_broken_1 rfl (by decide) rfl ?_
  refine zz_iconst (npc := 3) 0 (by decide) dX8_broken_2 rfl ?_
  refine zz_istore_n (npc := 4) (lv1 := [(2, .int 0), (1, .int (-1)), (0, .ref (eA E 57))]) rfl dX8_broken_3 rfl (by decide) rfl ?_
  refine zz_sub (npc := 0) (lv1 := [(0, .ref (eA E 57)), (1, .int (-1)), (2, .int 0)]) [2, 1, 0] rfl ?_
  exact zX8_broken_L4 E l  fu (-1) 0 M
abbrev rmX8_isSeen : Room := { frames := 7, cells := 0, slots := 0, locals := 164 }
theorem iX8_isSeen_8 : ∀ w ∈ u_ws RX8 TX8 29, w ∈ wsX8_isSeen := fun w h => List.mem_cons_of_mem _ (List.mem_append_right _ h)
noncomputable def fX8_isSeen_L65  (k15 : Int32 → Int32 → Int32 → Mem → Option (Int32 × Mem)) (y1 : Int32) (y3 : Int32) (w0 : Int32) (M : Mem) : Option (Int32 × Mem) := (bd (fX8_hour M) fun _ M7 => (bv (y3 + 1) fun v8 => (k15 y1 w0 v8 M7)))
set_option maxHeartbeats 4000000 in
set_option maxRecDepth 100000 in
theorem zX8_isSeen_L65 (E : EV) (l : Launch)   (k15 : Int32 → Int32 → Int32 → Mem → Option (Int32 × Mem)) (hk15 : ∀ (y1_ : Int32) (y2_ : Int32) (y3_ : Int32) (M_ : Mem), ZZ E l RX8 cX8_isSeen 4 (some .boolean) wsX8_isSeen rmX8_isSeen vI (k15 y1_ y2_ y3_ M_) M_ [(0, .ref (eA E 57)), (1, .int y1_), (2, .int y2_), (3, .int y3_)] 15 []) : ∀ (y1 : Int32) (y3 : Int32) (w0 : Int32) (M : Mem), ZZ E l RX8 cX8_isSeen 4 (some .boolean) wsX8_isSeen rmX8_isSeen vI (fX8_isSeen_L65 k15 y1 y3 w0 M) M [(0, .ref (eA E 57)), (1, .int y1), (3, .int y3)] 65 [.int w0] := by
  intro y1 y3 w0 M
  unfold fX8_isSeen_L65
  refine zz_istore_n (npc := 66) (lv1 := [(2, .int w0), (0, .ref (eA E 57)), (1, .int y1), (3, .int y3)]) rfl dX8_isSeen_65 rfl (by decide) rfl ?_
  refine zz_aload_n (npc := 67) 1 rfl rfl dX8_isSeen_66 rfl ?_
  refine zz_callVv (npc := 70) (n := 0) (As := []) (by decide) (by rfl) rfl gX8_isSeen_X8_hour rfl rfl rfl (by decide +kernel) ⟨Nat.le_of_ble_eq_true rfl, Nat.le_of_ble_eq_true rfl⟩ rfl rfl (Nat.le_of_ble_eq_true rfl) (mtX8_hour E l   M) dX8_isSeen_67 rfl (fun _ M7 _ => ?_)
  refine zz_iincB (npc := 73) (y3 + 1) (lv1 := fun v8 => [(3, .int v8), (2, .int w0), (0, .ref (eA E 57)), (1, .int y1)]) dX8_isSeen_70 rfl 3 rfl rfl (by decide) (fun _ => rfl) (fun v8 => ?_)
  refine zz_goto (npc := 0) (tgt := 15) dX8_isSeen_73 (by decide) ?_
  refine zz_sub (npc := 0) (lv1 := [(0, .ref (eA E 57)), (1, .int y1), (2, .int w0), (3, .int v8)]) [2, 3, 1, 0] rfl ?_
  exact hk15 y1 w0 v8 M7
noncomputable def fX8_isSeen_L76   (y2 : Int32) (M : Mem) : Option (Int32 × Mem) := (bd (fX8_copyRow 60 58 M) fun _ M6 => (ck (isb y2) (some (y2, M6))))
set_option maxHeartbeats 4000000 in
set_option maxRecDepth 100000 in
theorem zX8_isSeen_L76 (E : EV) (l : Launch)     : ∀ (y2 : Int32) (M : Mem), ZZ E l RX8 cX8_isSeen 4 (some .boolean) wsX8_isSeen rmX8_isSeen vI (fX8_isSeen_L76 y2 M) M [(0, .ref (eA E 57)), (2, .int y2)] 76 [] := by
  intro y2 M
  unfold fX8_isSeen_L76
  refine zz_aload_n (npc := 77) 0 rfl rfl dX8_isSeen_76 rfl ?_
  refine zz_getR (npc := 80) (i := 2) (C0 := RX8) (T := TX8) (N := 29) (by decide) (by rfl) rfl (by decide) iX8_isSeen_8 (List.mem_of_getElem? (i := 2) rfl) rfl dX8_isSeen_77 rfl ?_
  refine zz_aload_n (npc := 81) 0 rfl rfl dX8_isSeen_80 rfl ?_
  refine zz_getR (npc := 84) (i := 0) (C0 := RX8) (T := TX8) (N := 29) (by decide) (by rfl) rfl (by decide) iX8_isSeen_8 (List.mem_of_getElem? (i := 1) rfl) rfl dX8_isSeen_81 rfl ?_
  refine zz_callSv (npc := 87) (n := 2) (As := [.ref (eA E 60), .ref (eA E 58)]) gX8_isSeen_X8_copyRow rfl rfl rfl (by decide +kernel) ⟨Nat.le_of_ble_eq_true rfl, Nat.le_of_ble_eq_true rfl⟩ rfl rfl (Nat.le_of_ble_eq_true rfl) (mtX8_copyRow E l 60 58 ⟨(by decide), (by rfl)⟩ ⟨(by decide), (by rfl)⟩  M) dX8_isSeen_84 rfl (fun _ M6 _ => ?_)
  refine zz_iload_n (npc := 88) 1 rfl rfl dX8_isSeen_87 rfl ?_
  exact zz_zret dX8_isSeen_88
noncomputable def fX8_isSeen_L15   : Nat → Int32 → Int32 → Int32 → Mem → Option (Int32 × Mem)
  | 0, _, _, _, _ => none
  | n + 1, y1, y2, y3, M => (ck (inb y1 4) (if (M 70 (ix y1)) ≤ y3 then (fX8_isSeen_L76  y2 M) else (if y2 = 0 then (fX8_isSeen_L76  y2 M) else (bd (fX8_isOver M) fun r3 M2 => (if r3 = 0 then (ck (inb ((40 * y1) + y3) 160) (ck (inb 0 56) (bd (fX8_whoHave (M2 58 (ix 0)) M2) fun r5 M4 => (if (M2 71 (ix ((40 * y1) + y3))) = r5 then (fX8_isSeen_L65 (fX8_isSeen_L15  n) y1 y3 1 M4) else (fX8_isSeen_L65 (fX8_isSeen_L15  n) y1 y3 0 M4))))) else (fX8_isSeen_L76  y2 M2))))))
set_option maxHeartbeats 4000000 in
set_option maxRecDepth 100000 in
theorem zX8_isSeen_L15 (E : EV) (l : Launch)     : ∀ (n : Nat) (y1 : Int32) (y2 : Int32) (y3 : Int32) (M : Mem), ZZ E l RX8 cX8_isSeen 4 (some .boolean) wsX8_isSeen rmX8_isSeen vI (fX8_isSeen_L15 n y1 y2 y3 M) M [(0, .ref (eA E 57)), (1, .int y1), (2, .int y2), (3, .int y3)] 15 [] := by
  intro n
  induction n with
  | zero => intros; exact zz_none
  | succ n ih =>
    intro y1 y2 y3 M
    rw [fX8_isSeen_L15]
    refine zz_iload_n (npc := 16) 3 rfl rfl dX8_isSeen_15 rfl ?_
    refine zz_aload_n (npc := 17) 0 rfl rfl dX8_isSeen_16 rfl ?_
    refine zz_getR (npc := 20) (i := 26) (C0 := RX8) (T := TX8) (N := 29) (by decide) (by rfl) rfl (by decide) iX8_isSeen_8 (List.mem_of_getElem? (i := 3) rfl) rfl dX8_isSeen_17 rfl ?_
    refine zz_iload_n (npc := 21) 1 rfl rfl dX8_isSeen_20 rfl ?_
    refine zz_iald (npc := 22) (by decide) (by rfl) dX8_isSeen_21 rfl ?_
    refine zz_icmp_ge (tgt := 76) (npc := 25) dX8_isSeen_22 (by decide) rfl ?_ ?_
    · refine zz_sub (npc := 0) (lv1 := [(0, .ref (eA E 57)), (2, .int y2)]) [0, 2] rfl ?_
      exact zX8_isSeen_L76 E l  y2 M
    · refine zz_iload_n (npc := 26) 2 rfl rfl dX8_isSeen_25 rfl ?_
      refine zz_if_eq (tgt := 76) (npc := 29) dX8_isSeen_26 (by decide) rfl ?_ ?_
      · refine zz_sub (npc := 0) (lv1 := [(0, .ref (eA E 57)), (2, .int y2)]) [0, 2] rfl ?_
        exact zX8_isSeen_L76 E l  y2 M
      · refine zz_aload_n (npc := 30) 0 rfl rfl dX8_isSeen_29 rfl ?_
        refine zz_callVi (npc := 33) (n := 0) (As := []) (by decide) (by rfl) rfl gX8_isSeen_X8_isOver rfl rfl rfl (by decide +kernel) ⟨Nat.le_of_ble_eq_true rfl, Nat.le_of_ble_eq_true rfl⟩ rfl rfl (Nat.le_of_ble_eq_true rfl) (mtX8_isOver E l   M) dX8_isSeen_30 rfl (fun r3 M2 _ => ?_)
        refine zz_if_ne (tgt := 76) (npc := 36) dX8_isSeen_33 (by decide) rfl ?_ ?_
        · refine zz_sub (npc := 0) (lv1 := [(0, .ref (eA E 57)), (2, .int y2)]) [0, 2] rfl ?_
          exact zX8_isSeen_L76 E l  y2 M2
        · refine zz_aload_n (npc := 37) 0 rfl rfl dX8_isSeen_36 rfl ?_
          refine zz_getR (npc := 40) (i := 27) (C0 := RX8) (T := TX8) (N := 29) (by decide) (by rfl) rfl (by decide) iX8_isSeen_8 (List.mem_of_getElem? (i := 4) rfl) rfl dX8_isSeen_37 rfl ?_
          refine zz_bipush (npc := 42) 40 (by decide) dX8_isSeen_40 rfl ?_
          refine zz_iload_n (npc := 43) 1 rfl rfl dX8_isSeen_42 rfl ?_
          refine zz_imul (npc := 44) dX8_isSeen_43 rfl ?_
          refine zz_iload_n (npc := 45) 3 rfl rfl dX8_isSeen_44 rfl ?_
          refine zz_iadd (npc := 46) dX8_isSeen_45 rfl ?_
          refine zz_iald (npc := 47) (by decide) (by rfl) dX8_isSeen_46 rfl ?_
          refine zz_aload_n (npc := 48) 0 rfl rfl dX8_isSeen_47 rfl ?_
          refine zz_aload_n (npc := 49) 0 rfl rfl dX8_isSeen_48 rfl ?_
          refine zz_getR (npc := 52) (i := 0) (C0 := RX8) (T := TX8) (N := 29) (by decide) (by rfl) rfl (by decide) iX8_isSeen_8 (List.mem_of_getElem? (i := 1) rfl) rfl dX8_isSeen_49 rfl ?_
          refine zz_iconst (npc := 53) 0 (by decide) dX8_isSeen_52 rfl ?_
          refine zz_iald (npc := 54) (by decide) (by rfl) dX8_isSeen_53 rfl ?_
          refine zz_callVi (npc := 57) (n := 1) (As := [.int (M2 58 (ix 0))]) (by decide) (by rfl) rfl gX8_isSeen_X8_whoHave rfl rfl rfl (by decide +kernel) ⟨Nat.le_of_ble_eq_true rfl, Nat.le_of_ble_eq_true rfl⟩ rfl rfl (Nat.le_of_ble_eq_true rfl) (mtX8_whoHave E l  (M2 58 (ix 0)) M2) dX8_isSeen_54 rfl (fun r5 M4 _ => ?_)
          refine zz_icmp_ne (tgt := 64) (npc := 60) dX8_isSeen_57 (by decide) rfl ?_ ?_
          · refine zz_iconst (npc := 65) 0 (by decide) dX8_isSeen_64 rfl ?_
            refine zz_sub (npc := 0) (lv1 := [(0, .ref (eA E 57)), (1, .int y1), (3, .int y3)]) [0, 1, 3] rfl ?_
            exact zX8_isSeen_L65 E l (fX8_isSeen_L15  n) ih y1 y3 0 M4
          · refine zz_iconst (npc := 61) 1 (by decide) dX8_isSeen_60 rfl ?_
            refine zz_goto (npc := 0) (tgt := 65) dX8_isSeen_61 (by decide) ?_
            refine zz_sub (npc := 0) (lv1 := [(0, .ref (eA E 57)), (1, .int y1), (3, .int y3)]) [0, 1, 3] rfl ?_
            exact zX8_isSeen_L65 E l (fX8_isSeen_L15  n) ih y1 y3 1 M4
noncomputable def fX8_isSeen  (x1 : Int32) (M : Mem) : Option (Int32 × Mem) := (bd (fX8_copyRow 58 60 M) fun _ M1 => (fX8_isSeen_L15  fu x1 1 0 M1))
set_option maxHeartbeats 4000000 in
set_option maxRecDepth 100000 in
theorem mtX8_isSeen (E : EV) (l : Launch)   (x1 : Int32) (M : Mem) : CT E l yX8_isSeen wsX8_isSeen rmX8_isSeen vI [.ref (eA E 57), .int x1] (fX8_isSeen x1 M) M := by
  refine ct_of (cc := cX8_isSeen) (nL := 4) (ret := (some .boolean)) (by decide +kernel) rfl (Nat.le_of_ble_eq_true rfl) ?_
  show ZZ E l RX8 cX8_isSeen 4 (some .boolean) wsX8_isSeen rmX8_isSeen vI (fX8_isSeen x1 M) M [(0, .ref (eA E 57)), (1, .int x1)] 0 []
  unfold fX8_isSeen
  refine zz_aload_n (npc := 1) 0 rfl rfl dX8_isSeen_0 rfl ?_
  refine zz_getR (npc := 4) (i := 0) (C0 := RX8) (T := TX8) (N := 29) (by decide) (by rfl) rfl (by decide) iX8_isSeen_8 (List.mem_of_getElem? (i := 1) rfl) rfl dX8_isSeen_1 rfl ?_
  refine zz_aload_n (npc := 5) 0 rfl rfl dX8_isSeen_4 rfl ?_
  refine zz_getR (npc := 8) (i := 2) (C0 := RX8) (T := TX8) (N := 29) (by decide) (by rfl) rfl (by decide) iX8_isSeen_8 (List.mem_of_getElem? (i := 2) rfl) rfl dX8_isSeen_5 rfl ?_
  refine zz_callSv (npc := 11) (n := 2) (As := [.ref (eA E 58), .ref (eA E 60)]) gX8_isSeen_X8_copyRow rfl rfl rfl (by decide +kernel) ⟨Nat.le_of_ble_eq_true rfl, Nat.le_of_ble_eq_true rfl⟩ rfl rfl (Nat.le_of_ble_eq_true rfl) (mtX8_copyRow E l 58 60 ⟨(by decide), (by rfl)⟩ ⟨(by decide), (by rfl)⟩  M) dX8_isSeen_8 rfl (fun _ M1 _ => ?_)
  refine zz_iconst (npc := 12) 1 (by decide) dX8_isSeen_11 rfl ?_
  refine zz_istore_n (npc := 13) (lv1 := [(2, .int 1), (0, .ref (eA E 57)), (1, .int x1)]) rfl dX8_isSeen_12 rfl (by decide) rfl ?_
  refine zz_iconst (npc := 14) 0 (by decide) dX8_isSeen_13 rfl ?_
  refine zz_istore_n (npc := 15) (lv1 := [(3, .int 0), (2, .int 1), (0, .ref (eA E 57)), (1, .int x1)]) rfl dX8_isSeen_14 rfl (by decide) rfl ?_
  refine zz_sub (npc := 0) (lv1 := [(0, .ref (eA E 57)), (1, .int x1), (2, .int 1), (3, .int 0)]) [2, 3, 1, 0] rfl ?_
  exact zX8_isSeen_L15 E l  fu x1 1 0 M1
abbrev rmX8_seenWays (d : Nat) : Room := { frames := 8 + d, cells := 0, slots := 0, locals := 187 + 64 * d }
theorem iX8_seenWays_8 : ∀ w ∈ u_ws RX8 TX8 29, w ∈ wsX8_seenWays := fun w h => List.mem_cons_of_mem _ (List.mem_append_right _ h)
noncomputable def fX8_seenWays_L180 (self : Int32 → Int32 → Int32 → Mem → Option (Int32 × Mem)) (k85 : Int32 → Int32 → Int32 → Int32 → Int32 → Int32 → Mem → Option (Int32 × Mem)) (y1 : Int32) (y2 : Int32) (y3 : Int32) (y4 : Int32) (y5 : Int32) (y6 : Int32) (M : Mem) : Option (Int32 × Mem) := (bv (y6 + 1) fun v11 => (k85 y1 y2 y3 y4 y5 v11 M))
set_option maxHeartbeats 4000000 in
set_option maxRecDepth 100000 in
theorem zX8_seenWays_L180 (E : EV) (l : Launch) (self : Int32 → Int32 → Int32 → Mem → Option (Int32 × Mem)) (d : Nat) (hself : ∀ (x1 x2 x3 : Int32) (M : Mem), CT E l yX8_seenWays wsX8_seenWays (rmX8_seenWays d) vI [.ref (eA E 57), .int x1, .int x2, .int x3] (self x1 x2 x3 M) M) (k85 : Int32 → Int32 → Int32 → Int32 → Int32 → Int32 → Mem → Option (Int32 × Mem)) (hk85 : ∀ (y1_ : Int32) (y2_ : Int32) (y3_ : Int32) (y4_ : Int32) (y5_ : Int32) (y6_ : Int32) (M_ : Mem), ZZ E l RX8 cX8_seenWays 7 (some .int) wsX8_seenWays (rmX8_seenWays (d + 1)) vI (k85 y1_ y2_ y3_ y4_ y5_ y6_ M_) M_ [(0, .ref (eA E 57)), (1, .int y1_), (2, .int y2_), (3, .int y3_), (4, .int y4_), (5, .int y5_), (6, .int y6_)] 85 []) : ∀ (y1 : Int32) (y2 : Int32) (y3 : Int32) (y4 : Int32) (y5 : Int32) (y6 : Int32) (M : Mem), ZZ E l RX8 cX8_seenWays 7 (some .int) wsX8_seenWays (rmX8_seenWays (d + 1)) vI (fX8_seenWays_L180 self k85 y1 y2 y3 y4 y5 y6 M) M [(0, .ref (eA E 57)), (1, .int y1), (2, .int y2), (3, .int y3), (4, .int y4), (5, .int y5), (6, .int y6)] 180 [] := by
  intro y1 y2 y3 y4 y5 y6 M
  unfold fX8_seenWays_L180
  refine zz_iincB (npc := 183) (y6 + 1) (lv1 := fun v11 => [(6, .int v11), (0, .ref (eA E 57)), (1, .int y1), (2, .int y2), (3, .int y3), (4, .int y4), (5, .int y5)]) dX8_seenWays_180 rfl 6 rfl rfl (by decide) (fun _ => rfl) (fun v11 => ?_)
  refine zz_goto (npc := 0) (tgt := 85) dX8_seenWays_183 (by decide) ?_
  refine zz_sub (npc := 0) (lv1 := [(0, .ref (eA E 57)), (1, .int y1), (2, .int y2), (3, .int y3), (4, .int y4), (5, .int y5), (6, .int v11)]) [1, 2, 3, 4, 5, 6, 0] rfl ?_
  exact hk85 y1 y2 y3 y4 y5 v11 M
noncomputable def fX8_seenWays_L153 (self : Int32 → Int32 → Int32 → Mem → Option (Int32 × Mem)) (k85 : Int32 → Int32 → Int32 → Int32 → Int32 → Int32 → Mem → Option (Int32 × Mem)) (y1 : Int32) (y2 : Int32) (y3 : Int32) (y4 : Int32) (y5 : Int32) (y6 : Int32) (w0 : Int32) (w1 : Int32) (M : Mem) : Option (Int32 × Mem) := (ck (inb w1 56) (wm (wr M 58 (ix w1) w0) fun M15 => (bd (self y1 ((y2 &&& ((shl 1 y4) ^^^ (-1))) &&& ((shl 1 y6) ^^^ (-1))) y3 M15) fun r17 M16 => (bv (y5 + r17) fun v18 => (fX8_seenWays_L180 self k85 y1 y2 y3 y4 v18 y6 M16)))))
set_option maxHeartbeats 4000000 in
set_option maxRecDepth 100000 in
theorem zX8_seenWays_L153 (E : EV) (l : Launch) (self : Int32 → Int32 → Int32 → Mem → Option (Int32 × Mem)) (d : Nat) (hself : ∀ (x1 x2 x3 : Int32) (M : Mem), CT E l yX8_seenWays wsX8_seenWays (rmX8_seenWays d) vI [.ref (eA E 57), .int x1, .int x2, .int x3] (self x1 x2 x3 M) M) (k85 : Int32 → Int32 → Int32 → Int32 → Int32 → Int32 → Mem → Option (Int32 × Mem)) (hk85 : ∀ (y1_ : Int32) (y2_ : Int32) (y3_ : Int32) (y4_ : Int32) (y5_ : Int32) (y6_ : Int32) (M_ : Mem), ZZ E l RX8 cX8_seenWays 7 (some .int) wsX8_seenWays (rmX8_seenWays (d + 1)) vI (k85 y1_ y2_ y3_ y4_ y5_ y6_ M_) M_ [(0, .ref (eA E 57)), (1, .int y1_), (2, .int y2_), (3, .int y3_), (4, .int y4_), (5, .int y5_), (6, .int y6_)] 85 []) : ∀ (y1 : Int32) (y2 : Int32) (y3 : Int32) (y4 : Int32) (y5 : Int32) (y6 : Int32) (w0 : Int32) (w1 : Int32) (M : Mem), ZZ E l RX8 cX8_seenWays 7 (some .int) wsX8_seenWays (rmX8_seenWays (d + 1)) vI (fX8_seenWays_L153 self k85 y1 y2 y3 y4 y5 y6 w0 w1 M) M [(0, .ref (eA E 57)), (1, .int y1), (2, .int y2), (3, .int y3), (4, .int y4), (5, .int y5), (6, .int y6)] 153 [.int w0, .int w1, .ref (eA E 58)] := by
  intro y1 y2 y3 y4 y5 y6 w0 w1 M
  unfold fX8_seenWays_L153
  refine zz_iast (npc := 154) (by decide) (by rfl) dX8_seenWays_153 rfl (fun M15 => ?_)
  refine zz_iload (npc := 156) 5 rfl dX8_seenWays_154 rfl ?_
  refine zz_aload_n (npc := 157) 0 rfl rfl dX8_seenWays_156 rfl ?_
  refine zz_iload_n (npc := 158) 1 rfl rfl dX8_seenWays_157 rfl ?_
  refine zz_iload_n (npc := 159) 2 rfl rfl dX8_seenWays_158 rfl ?_
  refine zz_iconst (npc := 160) 1 (by decide) dX8_seenWays_159 rfl ?_
  refine zz_iload (npc := 162) 4 rfl dX8_seenWays_160 rfl ?_
  refine zz_ishl (npc := 163) dX8_seenWays_162 rfl ?_
  refine zz_iconst (npc := 164) (-1) (by decide) dX8_seenWays_163 rfl ?_
  refine zz_ixor (npc := 165) dX8_seenWays_164 rfl ?_
  refine zz_iand (npc := 166) dX8_seenWays_165 rfl ?_
  refine zz_iconst (npc := 167) 1 (by decide) dX8_seenWays_166 rfl ?_
  refine zz_iload (npc := 169) 6 rfl dX8_seenWays_167 rfl ?_
  refine zz_ishl (npc := 170) dX8_seenWays_169 rfl ?_
  refine zz_iconst (npc := 171) (-1) (by decide) dX8_seenWays_170 rfl ?_
  refine zz_ixor (npc := 172) dX8_seenWays_171 rfl ?_
  refine zz_iand (npc := 173) dX8_seenWays_172 rfl ?_
  refine zz_iload_n (npc := 174) 3 rfl rfl dX8_seenWays_173 rfl ?_
  refine zz_callVi (npc := 177) (n := 3) (As := [.int y1, .int ((y2 &&& ((shl 1 y4) ^^^ (-1))) &&& ((shl 1 y6) ^^^ (-1))), .int y3]) (by decide) (by rfl) rfl gX8_seenWays_X8_seenWays rfl rfl rfl (by decide +kernel) (by constructor <;> simp only [rmX8_seenWays, rmX8_seenWays] <;> omega) rfl rfl (Nat.le_of_ble_eq_true rfl) (hself y1 ((y2 &&& ((shl 1 y4) ^^^ (-1))) &&& ((shl 1 y6) ^^^ (-1))) y3 M15) dX8_seenWays_174 rfl (fun r17 M16 _ => ?_)
  refine zz_iadd (npc := 178) dX8_seenWays_177 rfl ?_
  refine zz_istoreB (npc := 180) (lv1 := fun v18 => [(5, .int v18), (0, .ref (eA E 57)), (1, .int y1), (2, .int y2), (3, .int y3), (4, .int y4), (6, .int y6)]) dX8_seenWays_178 rfl (by decide) (fun _ => rfl) (fun v18 => ?_)
  refine zz_sub (npc := 0) (lv1 := [(0, .ref (eA E 57)), (1, .int y1), (2, .int y2), (3, .int y3), (4, .int y4), (5, .int v18), (6, .int y6)]) [1, 2, 3, 4, 5, 0, 6] rfl ?_
  exact zX8_seenWays_L180 E l self d hself k85 hk85 y1 y2 y3 y4 v18 y6 M16
noncomputable def fX8_seenWays_L129 (self : Int32 → Int32 → Int32 → Mem → Option (Int32 × Mem)) (k85 : Int32 → Int32 → Int32 → Int32 → Int32 → Int32 → Mem → Option (Int32 × Mem)) (y1 : Int32) (y2 : Int32) (y3 : Int32) (y4 : Int32) (y5 : Int32) (y6 : Int32) (w0 : Int32) (w1 : Int32) (M : Mem) : Option (Int32 × Mem) := (ck (inb w1 56) (wm (wr M 58 (ix w1) w0) fun M12 => (bd (fX8_at y6 4 M12) fun r14 M13 => (if y6 = y4 then (fX8_seenWays_L153 self k85 y1 y2 y3 y4 y5 y6 (-1) r14 M13) else (fX8_seenWays_L153 self k85 y1 y2 y3 y4 y5 y6 y4 r14 M13)))))
set_option maxHeartbeats 4000000 in
set_option maxRecDepth 100000 in
theorem zX8_seenWays_L129 (E : EV) (l : Launch) (self : Int32 → Int32 → Int32 → Mem → Option (Int32 × Mem)) (d : Nat) (hself : ∀ (x1 x2 x3 : Int32) (M : Mem), CT E l yX8_seenWays wsX8_seenWays (rmX8_seenWays d) vI [.ref (eA E 57), .int x1, .int x2, .int x3] (self x1 x2 x3 M) M) (k85 : Int32 → Int32 → Int32 → Int32 → Int32 → Int32 → Mem → Option (Int32 × Mem)) (hk85 : ∀ (y1_ : Int32) (y2_ : Int32) (y3_ : Int32) (y4_ : Int32) (y5_ : Int32) (y6_ : Int32) (M_ : Mem), ZZ E l RX8 cX8_seenWays 7 (some .int) wsX8_seenWays (rmX8_seenWays (d + 1)) vI (k85 y1_ y2_ y3_ y4_ y5_ y6_ M_) M_ [(0, .ref (eA E 57)), (1, .int y1_), (2, .int y2_), (3, .int y3_), (4, .int y4_), (5, .int y5_), (6, .int y6_)] 85 []) : ∀ (y1 : Int32) (y2 : Int32) (y3 : Int32) (y4 : Int32) (y5 : Int32) (y6 : Int32) (w0 : Int32) (w1 : Int32) (M : Mem), ZZ E l RX8 cX8_seenWays 7 (some .int) wsX8_seenWays (rmX8_seenWays (d + 1)) vI (fX8_seenWays_L129 self k85 y1 y2 y3 y4 y5 y6 w0 w1 M) M [(0, .ref (eA E 57)), (1, .int y1), (2, .int y2), (3, .int y3), (4, .int y4), (5, .int y5), (6, .int y6)] 129 [.int w0, .int w1, .ref (eA E 58)] := by
  intro y1 y2 y3 y4 y5 y6 w0 w1 M
  unfold fX8_seenWays_L129
  refine zz_iast (npc := 130) (by decide) (by rfl) dX8_seenWays_129 rfl (fun M12 => ?_)
  refine zz_aload_n (npc := 131) 0 rfl rfl dX8_seenWays_130 rfl ?_
  refine zz_getR (npc := 134) (i := 0) (C0 := RX8) (T := TX8) (N := 29) (by decide) (by rfl) rfl (by decide) iX8_seenWays_8 (List.mem_of_getElem? (i := 2) rfl) rfl dX8_seenWays_131 rfl ?_
  refine zz_iload (npc := 136) 6 rfl dX8_seenWays_134 rfl ?_
  refine zz_iconst (npc := 137) 4 (by decide) dX8_seenWays_136 rfl ?_
  refine zz_callSi (npc := 140) (n := 2) (As := [.int y6, .int 4]) gX8_seenWays_X8_at rfl rfl rfl (by decide +kernel) (by constructor <;> simp only [rmX8_at, rmX8_seenWays] <;> omega) rfl rfl (Nat.le_of_ble_eq_true rfl) (mtX8_at E l  y6 4 M12) dX8_seenWays_137 rfl (fun r14 M13 _ => ?_)
  refine zz_iload (npc := 142) 6 rfl dX8_seenWays_140 rfl ?_
  refine zz_iload (npc := 144) 4 rfl dX8_seenWays_142 rfl ?_
  refine zz_icmp_ne (tgt := 151) (npc := 147) dX8_seenWays_144 (by decide) rfl ?_ ?_
  · refine zz_iload (npc := 153) 4 rfl dX8_seenWays_151 rfl ?_
    exact zX8_seenWays_L153 E l self d hself k85 hk85 y1 y2 y3 y4 y5 y6 y4 r14 M13
  · refine zz_iconst (npc := 148) (-1) (by decide) dX8_seenWays_147 rfl ?_
    refine zz_goto (npc := 0) (tgt := 153) dX8_seenWays_148 (by decide) ?_
    exact zX8_seenWays_L153 E l self d hself k85 hk85 y1 y2 y3 y4 y5 y6 (-1) r14 M13
noncomputable def fX8_seenWays_L85 (self : Int32 → Int32 → Int32 → Mem → Option (Int32 × Mem))  : Nat → Int32 → Int32 → Int32 → Int32 → Int32 → Int32 → Mem → Option (Int32 × Mem)
  | 0, _, _, _, _, _, _, _ => none
  | n + 1, y1, y2, y3, y4, y5, y6, M => (ck (inb 4 56) (if (M 58 (ix 4)) ≤ y6 then (some (y5, M)) else (bd (fX8_mayBe y2 y6 M) fun r8 M7 => (if r8 = 0 then (fX8_seenWays_L180 self (fX8_seenWays_L85 self n) y1 y2 y3 y4 y5 y6 M7) else (bd (fX8_at y4 4 M7) fun r10 M9 => (if y6 = y4 then (fX8_seenWays_L129 self (fX8_seenWays_L85 self n) y1 y2 y3 y4 y5 y6 (-1) r10 M9) else (fX8_seenWays_L129 self (fX8_seenWays_L85 self n) y1 y2 y3 y4 y5 y6 y6 r10 M9)))))))
set_option maxHeartbeats 4000000 in
set_option maxRecDepth 100000 in
theorem zX8_seenWays_L85 (E : EV) (l : Launch) (self : Int32 → Int32 → Int32 → Mem → Option (Int32 × Mem)) (d : Nat) (hself : ∀ (x1 x2 x3 : Int32) (M : Mem), CT E l yX8_seenWays wsX8_seenWays (rmX8_seenWays d) vI [.ref (eA E 57), .int x1, .int x2, .int x3] (self x1 x2 x3 M) M)   : ∀ (n : Nat) (y1 : Int32) (y2 : Int32) (y3 : Int32) (y4 : Int32) (y5 : Int32) (y6 : Int32) (M : Mem), ZZ E l RX8 cX8_seenWays 7 (some .int) wsX8_seenWays (rmX8_seenWays (d + 1)) vI (fX8_seenWays_L85 self n y1 y2 y3 y4 y5 y6 M) M [(0, .ref (eA E 57)), (1, .int y1), (2, .int y2), (3, .int y3), (4, .int y4), (5, .int y5), (6, .int y6)] 85 [] := by
  intro n
  induction n with
  | zero => intros; exact zz_none
  | succ n ih =>
    intro y1 y2 y3 y4 y5 y6 M
    rw [fX8_seenWays_L85]
    refine zz_iload (npc := 87) 6 rfl dX8_seenWays_85 rfl ?_
    refine zz_aload_n (npc := 88) 0 rfl rfl dX8_seenWays_87 rfl ?_
    refine zz_getR (npc := 91) (i := 0) (C0 := RX8) (T := TX8) (N := 29) (by decide) (by rfl) rfl (by decide) iX8_seenWays_8 (List.mem_of_getElem? (i := 2) rfl) rfl dX8_seenWays_88 rfl ?_
    refine zz_iconst (npc := 92) 4 (by decide) dX8_seenWays_91 rfl ?_
    refine zz_iald (npc := 93) (by decide) (by rfl) dX8_seenWays_92 rfl ?_
    refine zz_icmp_ge (tgt := 186) (npc := 96) dX8_seenWays_93 (by decide) rfl ?_ ?_
    · refine zz_iload (npc := 188) 5 rfl dX8_seenWays_186 rfl ?_
      exact zz_iret dX8_seenWays_188
    · refine zz_aload_n (npc := 97) 0 rfl rfl dX8_seenWays_96 rfl ?_
      refine zz_iload_n (npc := 98) 2 rfl rfl dX8_seenWays_97 rfl ?_
      refine zz_iload (npc := 100) 6 rfl dX8_seenWays_98 rfl ?_
      refine zz_callVi (npc := 103) (n := 2) (As := [.int y2, .int y6]) (by decide) (by rfl) rfl gX8_seenWays_X8_mayBe rfl rfl rfl (by decide +kernel) (by constructor <;> simp only [rmX8_mayBe, rmX8_seenWays] <;> omega) rfl rfl (Nat.le_of_ble_eq_true rfl) (mtX8_mayBe E l  y2 y6 M) dX8_seenWays_100 rfl (fun r8 M7 _ => ?_)
      refine zz_if_eq (tgt := 180) (npc := 106) dX8_seenWays_103 (by decide) rfl ?_ ?_
      · exact zX8_seenWays_L180 E l self d hself (fX8_seenWays_L85 self n) ih y1 y2 y3 y4 y5 y6 M7
      · refine zz_aload_n (npc := 107) 0 rfl rfl dX8_seenWays_106 rfl ?_
        refine zz_getR (npc := 110) (i := 0) (C0 := RX8) (T := TX8) (N := 29) (by decide) (by rfl) rfl (by decide) iX8_seenWays_8 (List.mem_of_getElem? (i := 2) rfl) rfl dX8_seenWays_107 rfl ?_
        refine zz_iload (npc := 112) 4 rfl dX8_seenWays_110 rfl ?_
        refine zz_iconst (npc := 113) 4 (by decide) dX8_seenWays_112 rfl ?_
        refine zz_callSi (npc := 116) (n := 2) (As := [.int y4, .int 4]) gX8_seenWays_X8_at rfl rfl rfl (by decide +kernel) (by constructor <;> simp only [rmX8_at, rmX8_seenWays] <;> omega) rfl rfl (Nat.le_of_ble_eq_true rfl) (mtX8_at E l  y4 4 M7) dX8_seenWays_113 rfl (fun r10 M9 _ => ?_)
        refine zz_iload (npc := 118) 6 rfl dX8_seenWays_116 rfl ?_
        refine zz_iload (npc := 120) 4 rfl dX8_seenWays_118 rfl ?_
        refine zz_icmp_ne (tgt := 127) (npc := 123) dX8_seenWays_120 (by decide) rfl ?_ ?_
        · refine zz_iload (npc := 129) 6 rfl dX8_seenWays_127 rfl ?_
          exact zX8_seenWays_L129 E l self d hself (fX8_seenWays_L85 self n) ih y1 y2 y3 y4 y5 y6 y6 r10 M9
        · refine zz_iconst (npc := 124) (-1) (by decide) dX8_seenWays_123 rfl ?_
          refine zz_goto (npc := 0) (tgt := 129) dX8_seenWays_124 (by decide) ?_
          exact zX8_seenWays_L129 E l self d hself (fX8_seenWays_L85 self n) ih y1 y2 y3 y4 y5 y6 (-1) r10 M9
noncomputable def fX8_seenWays_L58 (self : Int32 → Int32 → Int32 → Mem → Option (Int32 × Mem))  (y4 : Int32) (w0 : Int32) (w1 : Int32) (M : Mem) : Option (Int32 × Mem) := (wm (wr M 57 12 (w1 ||| w0)) fun M19 => (if y4 = 0 then (some (0, M19)) else (some (1, M19))))
set_option maxHeartbeats 4000000 in
set_option maxRecDepth 100000 in
theorem zX8_seenWays_L58 (E : EV) (l : Launch) (self : Int32 → Int32 → Int32 → Mem → Option (Int32 × Mem)) (d : Nat) (hself : ∀ (x1 x2 x3 : Int32) (M : Mem), CT E l yX8_seenWays wsX8_seenWays (rmX8_seenWays d) vI [.ref (eA E 57), .int x1, .int x2, .int x3] (self x1 x2 x3 M) M)   : ∀ (y4 : Int32) (w0 : Int32) (w1 : Int32) (M : Mem), ZZ E l RX8 cX8_seenWays 7 (some .int) wsX8_seenWays (rmX8_seenWays (d + 1)) vI (fX8_seenWays_L58 self y4 w0 w1 M) M [(4, .int y4)] 58 [.int w0, .int w1, .ref (eA E 57)] := by
  intro y4 w0 w1 M
  unfold fX8_seenWays_L58
  refine zz_ior (npc := 59) dX8_seenWays_58 rfl ?_
  refine zz_putI (npc := 62) (i := 12) (C0 := RX8) (T := TX8) (N := 29) (by decide) (by rfl) rfl (by decide) iX8_seenWays_8 (List.mem_of_getElem? (i := 1) rfl) tyX8_ok nmX8 rfl rfl rfl dX8_seenWays_59 rfl (fun M19 => ?_)
  refine zz_iload (npc := 64) 0 rfl dX8_seenWays_62 rfl ?_
  refine zz_if_eq (tgt := 71) (npc := 67) dX8_seenWays_64 (by decide) rfl ?_ ?_
  · refine zz_iconst (npc := 72) 0 (by decide) dX8_seenWays_71 rfl ?_
    exact zz_iret dX8_seenWays_72
  · refine zz_iconst (npc := 68) 1 (by decide) dX8_seenWays_67 rfl ?_
    refine zz_goto (npc := 0) (tgt := 72) dX8_seenWays_68 (by decide) ?_
    exact zz_iret dX8_seenWays_72
noncomputable def fX8_seenWays_L53 (self : Int32 → Int32 → Int32 → Mem → Option (Int32 × Mem))  (y4 : Int32) (w0 : Int32) (w2 : Int32) (M : Mem) : Option (Int32 × Mem) := (fX8_seenWays_L58 self y4 (shl 1 w0) w2 M)
set_option maxHeartbeats 4000000 in
set_option maxRecDepth 100000 in
theorem zX8_seenWays_L53 (E : EV) (l : Launch) (self : Int32 → Int32 → Int32 → Mem → Option (Int32 × Mem)) (d : Nat) (hself : ∀ (x1 x2 x3 : Int32) (M : Mem), CT E l yX8_seenWays wsX8_seenWays (rmX8_seenWays d) vI [.ref (eA E 57), .int x1, .int x2, .int x3] (self x1 x2 x3 M) M)   : ∀ (y4 : Int32) (w0 : Int32) (w2 : Int32) (M : Mem), ZZ E l RX8 cX8_seenWays 7 (some .int) wsX8_seenWays (rmX8_seenWays (d + 1)) vI (fX8_seenWays_L53 self y4 w0 w2 M) M [(4, .int y4)] 53 [.int w0, .int 1, .int w2, .ref (eA E 57)] := by
  intro y4 w0 w2 M
  unfold fX8_seenWays_L53
  refine zz_ishl (npc := 54) dX8_seenWays_53 rfl ?_
  refine zz_goto (npc := 0) (tgt := 58) dX8_seenWays_54 (by decide) ?_
  exact zX8_seenWays_L58 E l self d hself y4 (shl 1 w0) w2 M
noncomputable def fX8_seenWays_L57 (self : Int32 → Int32 → Int32 → Mem → Option (Int32 × Mem))  (y4 : Int32) (w0 : Int32) (M : Mem) : Option (Int32 × Mem) := (fX8_seenWays_L58 self y4 0 w0 M)
set_option maxHeartbeats 4000000 in
set_option maxRecDepth 100000 in
theorem zX8_seenWays_L57 (E : EV) (l : Launch) (self : Int32 → Int32 → Int32 → Mem → Option (Int32 × Mem)) (d : Nat) (hself : ∀ (x1 x2 x3 : Int32) (M : Mem), CT E l yX8_seenWays wsX8_seenWays (rmX8_seenWays d) vI [.ref (eA E 57), .int x1, .int x2, .int x3] (self x1 x2 x3 M) M)   : ∀ (y4 : Int32) (w0 : Int32) (M : Mem), ZZ E l RX8 cX8_seenWays 7 (some .int) wsX8_seenWays (rmX8_seenWays (d + 1)) vI (fX8_seenWays_L57 self y4 w0 M) M [(4, .int y4)] 57 [.int w0, .ref (eA E 57)] := by
  intro y4 w0 M
  unfold fX8_seenWays_L57
  refine zz_iconst (npc := 58) 0 (by decide) dX8_seenWays_57 rfl ?_
  exact zX8_seenWays_L58 E l self d hself y4 0 w0 M
noncomputable def fX8_seenWays_L25 (self : Int32 → Int32 → Int32 → Mem → Option (Int32 × Mem))  (y3 : Int32) (y4 : Int32) (w0 : Int32) (M : Mem) : Option (Int32 × Mem) := (if y4 = 0 then (fX8_seenWays_L57 self y4 (M 57 12) M) else (if y3 < 0 then (fX8_seenWays_L57 self y4 (M 57 12) M) else (if 0 ≤ w0 then (fX8_seenWays_L53 self y4 w0 (M 57 12) M) else (fX8_seenWays_L53 self y4 y3 (M 57 12) M))))
set_option maxHeartbeats 4000000 in
set_option maxRecDepth 100000 in
theorem zX8_seenWays_L25 (E : EV) (l : Launch) (self : Int32 → Int32 → Int32 → Mem → Option (Int32 × Mem)) (d : Nat) (hself : ∀ (x1 x2 x3 : Int32) (M : Mem), CT E l yX8_seenWays wsX8_seenWays (rmX8_seenWays d) vI [.ref (eA E 57), .int x1, .int x2, .int x3] (self x1 x2 x3 M) M)   : ∀ (y3 : Int32) (y4 : Int32) (w0 : Int32) (M : Mem), ZZ E l RX8 cX8_seenWays 7 (some .int) wsX8_seenWays (rmX8_seenWays (d + 1)) vI (fX8_seenWays_L25 self y3 y4 w0 M) M [(0, .ref (eA E 57)), (3, .int y3), (4, .int y4)] 25 [.int w0] := by
  intro y3 y4 w0 M
  unfold fX8_seenWays_L25
  refine zz_istore (npc := 27) (lv1 := [(5, .int w0), (0, .ref (eA E 57)), (3, .int y3), (4, .int y4)]) dX8_seenWays_25 rfl (by decide) rfl ?_
  refine zz_aload_n (npc := 28) 1 rfl rfl dX8_seenWays_27 rfl ?_
  refine zz_dup (npc := 29) rfl dX8_seenWays_28 rfl ?_
  refine zz_getI (npc := 32) (i := 12) (C0 := RX8) (T := TX8) (N := 29) (by decide) (by rfl) rfl (by decide) iX8_seenWays_8 (List.mem_of_getElem? (i := 1) rfl) rfl dX8_seenWays_29 rfl ?_
  refine zz_iload (npc := 34) 3 rfl dX8_seenWays_32 rfl ?_
  refine zz_if_eq (tgt := 57) (npc := 37) dX8_seenWays_34 (by decide) rfl ?_ ?_
  · refine zz_sub (npc := 0) (lv1 := [(4, .int y4)]) [3] rfl ?_
    exact zX8_seenWays_L57 E l self d hself y4 (M 57 12) M
  · refine zz_iload_n (npc := 38) 2 rfl rfl dX8_seenWays_37 rfl ?_
    refine zz_if_lt (tgt := 57) (npc := 41) dX8_seenWays_38 (by decide) rfl ?_ ?_
    · refine zz_sub (npc := 0) (lv1 := [(4, .int y4)]) [3] rfl ?_
      exact zX8_seenWays_L57 E l self d hself y4 (M 57 12) M
    · refine zz_iconst (npc := 42) 1 (by decide) dX8_seenWays_41 rfl ?_
      refine zz_iload (npc := 44) 0 rfl dX8_seenWays_42 rfl ?_
      refine zz_if_ge (tgt := 51) (npc := 47) dX8_seenWays_44 (by decide) rfl ?_ ?_
      · refine zz_iload (npc := 53) 0 rfl dX8_seenWays_51 rfl ?_
        refine zz_sub (npc := 0) (lv1 := [(4, .int y4)]) [3] rfl ?_
        exact zX8_seenWays_L53 E l self d hself y4 w0 (M 57 12) M
      · refine zz_iload_n (npc := 48) 2 rfl rfl dX8_seenWays_47 rfl ?_
        refine zz_goto (npc := 0) (tgt := 53) dX8_seenWays_48 (by decide) ?_
        refine zz_sub (npc := 0) (lv1 := [(4, .int y4)]) [3] rfl ?_
        exact zX8_seenWays_L53 E l self d hself y4 y3 (M 57 12) M
noncomputable def fX8_seenWays : Nat → Int32 → Int32 → Int32 → Mem → Option (Int32 × Mem)
  | 0, _, _, _, _ => none
  | d + 1, x1, x2, x3, M => (if x2 = 0 then (bd (fX8_isSeen x1 M) fun r4 M3 => (if 0 ≤ x3 then (bd (fX8_personIs x3 4 M3) fun r6 M5 => (fX8_seenWays_L25 (fX8_seenWays d) x3 r4 r6 M5)) else (fX8_seenWays_L25 (fX8_seenWays d) x3 r4 (-1) M3))) else (bd (fX8_lowest x2 M) fun r2 M1 => (fX8_seenWays_L85 (fX8_seenWays d) fu x1 x2 x3 r2 0 0 M1)))
set_option maxHeartbeats 4000000 in
set_option maxRecDepth 100000 in
theorem mtX8_seenWays (E : EV) (l : Launch) : ∀ (d : Nat) (x1 : Int32) (x2 : Int32) (x3 : Int32) (M : Mem), CT E l yX8_seenWays wsX8_seenWays (rmX8_seenWays d) vI [.ref (eA E 57), .int x1, .int x2, .int x3] (fX8_seenWays d x1 x2 x3 M) M := by
  intro d
  induction d with
  | zero => intro x1 x2 x3 M hE r M9 h; cases h
  | succ d hself =>
    intro x1 x2 x3 M
    refine ct_of (cc := cX8_seenWays) (nL := 7) (ret := (some .int)) (by decide +kernel) rfl (Nat.le_of_ble_eq_true rfl) ?_
    show ZZ E l RX8 cX8_seenWays 7 (some .int) wsX8_seenWays (rmX8_seenWays (d + 1)) vI (fX8_seenWays (d + 1) x1 x2 x3 M) M [(0, .ref (eA E 57)), (1, .int x1), (2, .int x2), (3, .int x3)] 0 []
    rw [fX8_seenWays]
    refine zz_iload_n (npc := 1) 2 rfl rfl dX8_seenWays_0 rfl ?_
    refine zz_if_ne (tgt := 73) (npc := 4) dX8_seenWays_1 (by decide) rfl ?_ ?_
    · refine zz_iload_n (npc := 74) 2 rfl rfl dX8_seenWays_73 rfl ?_
      refine zz_callSi (npc := 77) (n := 1) (As := [.int x2]) gX8_seenWays_X8_lowest rfl rfl rfl (by decide +kernel) (by constructor <;> simp only [rmX8_lowest, rmX8_seenWays] <;> omega) rfl rfl (Nat.le_of_ble_eq_true rfl) (mtX8_lowest E l  x2 M) dX8_seenWays_74 rfl (fun r2 M1 _ => ?_)
      refine zz_istore (npc := 79) (lv1 := [(4, .int r2), (0, .ref (eA E 57)), (1, .int x1), (2, .int x2), (3, .int x3)]) dX8_seenWays_77 rfl (by decide) rfl ?_
      refine zz_iconst (npc := 80) 0 (by decide) dX8_seenWays_79 rfl ?_
      refine zz_istore (npc := 82) (lv1 := [(5, .int 0), (4, .int r2), (0, .ref (eA E 57)), (1, .int x1), (2, .int x2), (3, .int x3)]) dX8_seenWays_80 rfl (by decide) rfl ?_
      refine zz_iconst (npc := 83) 0 (by decide) dX8_seenWays_82 rfl ?_
      refine zz_istore (npc := 85) (lv1 := [(6, .int 0), (5, .int 0), (4, .int r2), (0, .ref (eA E 57)), (1, .int x1), (2, .int x2), (3, .int x3)]) dX8_seenWays_83 rfl (by decide) rfl ?_
      refine zz_sub (npc := 0) (lv1 := [(0, .ref (eA E 57)), (1, .int x1), (2, .int x2), (3, .int x3), (4, .int r2), (5, .int 0), (6, .int 0)]) [3, 4, 5, 6, 2, 1, 0] rfl ?_
      exact zX8_seenWays_L85 E l (fX8_seenWays d) d hself fu x1 x2 x3 r2 0 0 M1
    · refine zz_aload_n (npc := 5) 0 rfl rfl dX8_seenWays_4 rfl ?_
      refine zz_iload_n (npc := 6) 1 rfl rfl dX8_seenWays_5 rfl ?_
      refine zz_callVi (npc := 9) (n := 1) (As := [.int x1]) (by decide) (by rfl) rfl gX8_seenWays_X8_isSeen rfl rfl rfl (by decide +kernel) (by constructor <;> simp only [rmX8_isSeen, rmX8_seenWays] <;> omega) rfl rfl (Nat.le_of_ble_eq_true rfl) (mtX8_isSeen E l  x1 M) dX8_seenWays_6 rfl (fun r4 M3 _ => ?_)
      refine zz_istore (npc := 11) (lv1 := [(4, .int r4), (0, .ref (eA E 57)), (1, .int x1), (2, .int x2), (3, .int x3)]) dX8_seenWays_9 rfl (by decide) rfl ?_
      refine zz_iload_n (npc := 12) 4 rfl rfl dX8_seenWays_11 rfl ?_
      refine zz_if_ge (tgt := 19) (npc := 15) dX8_seenWays_12 (by decide) rfl ?_ ?_
      · refine zz_aload_n (npc := 20) 1 rfl rfl dX8_seenWays_19 rfl ?_
        refine zz_iload_n (npc := 21) 4 rfl rfl dX8_seenWays_20 rfl ?_
        refine zz_iconst (npc := 22) 4 (by decide) dX8_seenWays_21 rfl ?_
        refine zz_callVi (npc := 25) (n := 2) (As := [.int x3, .int 4]) (by decide) (by rfl) rfl gX8_seenWays_X8_personIs rfl rfl rfl (by decide +kernel) (by constructor <;> simp only [rmX8_personIs, rmX8_seenWays] <;> omega) rfl rfl (Nat.le_of_ble_eq_true rfl) (mtX8_personIs E l  x3 4 M3) dX8_seenWays_22 rfl (fun r6 M5 _ => ?_)
        refine zz_sub (npc := 0) (lv1 := [(0, .ref (eA E 57)), (3, .int x3), (4, .int r4)]) [1, 4, 0] rfl ?_
        exact zX8_seenWays_L25 E l (fX8_seenWays d) d hself x3 r4 r6 M5
      · refine zz_iconst (npc := 16) (-1) (by decide) dX8_seenWays_15 rfl ?_
        refine zz_goto (npc := 0) (tgt := 25) dX8_seenWays_16 (by decide) ?_
        refine zz_sub (npc := 0) (lv1 := [(0, .ref (eA E 57)), (3, .int x3), (4, .int r4)]) [1, 4, 0] rfl ?_
        exact zX8_seenWays_L25 E l (fX8_seenWays d) d hself x3 r4 (-1) M3
abbrev rmX8_findSeen : Room := { frames := 18, cells := 0, slots := 0, locals := 789 }
theorem iX8_findSeen_8 : ∀ w ∈ u_ws RX8 TX8 29, w ∈ wsX8_findSeen := fun w h => List.mem_cons_of_mem _ (List.mem_append_right _ h)
noncomputable def fX8_findSeen_L55   : Nat → Int32 → Int32 → Mem → Option (Int32 × Mem)
  | 0, _, _, _ => none
  | n + 1, y3, y4, M => (ck (inb 4 56) (if (M 58 (ix 4)) ≤ y4 then (some (y3, M)) else (bd (fX8_at y4 4 M) fun r9 M8 => (ck (inb y4 8) (ck (inb r9 56) (wm (wr M8 58 (ix r9) (M8 65 (ix y4))) fun M10 => (bv (y4 + 1) fun v11 => (fX8_findSeen_L55  n y3 v11 M10))))))))
set_option maxHeartbeats 4000000 in
set_option maxRecDepth 100000 in
theorem zX8_findSeen_L55 (E : EV) (l : Launch)     : ∀ (n : Nat) (y3 : Int32) (y4 : Int32) (M : Mem), ZZ E l RX8 cX8_findSeen 5 (some .int) wsX8_findSeen rmX8_findSeen vI (fX8_findSeen_L55 n y3 y4 M) M [(0, .ref (eA E 57)), (3, .int y3), (4, .int y4)] 55 [] := by
  intro n
  induction n with
  | zero => intros; exact zz_none
  | succ n ih =>
    intro y3 y4 M
    rw [fX8_findSeen_L55]
    refine zz_iload (npc := 57) 2 rfl dX8_findSeen_55 rfl ?_
    refine zz_aload_n (npc := 58) 0 rfl rfl dX8_findSeen_57 rfl ?_
    refine zz_getR (npc := 61) (i := 0) (C0 := RX8) (T := TX8) (N := 29) (by decide) (by rfl) rfl (by decide) iX8_findSeen_8 (List.mem_of_getElem? (i := 2) rfl) rfl dX8_findSeen_58 rfl ?_
    refine zz_iconst (npc := 62) 4 (by decide) dX8_findSeen_61 rfl ?_
    refine zz_iald (npc := 63) (by decide) (by rfl) dX8_findSeen_62 rfl ?_
    refine zz_icmp_ge (tgt := 90) (npc := 66) dX8_findSeen_63 (by decide) rfl ?_ ?_
    · refine zz_iload_n (npc := 91) 1 rfl rfl dX8_findSeen_90 rfl ?_
      exact zz_iret dX8_findSeen_91
    · refine zz_aload_n (npc := 67) 0 rfl rfl dX8_findSeen_66 rfl ?_
      refine zz_getR (npc := 70) (i := 0) (C0 := RX8) (T := TX8) (N := 29) (by decide) (by rfl) rfl (by decide) iX8_findSeen_8 (List.mem_of_getElem? (i := 2) rfl) rfl dX8_findSeen_67 rfl ?_
      refine zz_iload (npc := 72) 2 rfl dX8_findSeen_70 rfl ?_
      refine zz_iconst (npc := 73) 4 (by decide) dX8_findSeen_72 rfl ?_
      refine zz_callSi (npc := 76) (n := 2) (As := [.int y4, .int 4]) gX8_findSeen_X8_at rfl rfl rfl (by decide +kernel) ⟨Nat.le_of_ble_eq_true rfl, Nat.le_of_ble_eq_true rfl⟩ rfl rfl (Nat.le_of_ble_eq_true rfl) (mtX8_at E l  y4 4 M) dX8_findSeen_73 rfl (fun r9 M8 _ => ?_)
      refine zz_aload_n (npc := 77) 0 rfl rfl dX8_findSeen_76 rfl ?_
      refine zz_getR (npc := 80) (i := 13) (C0 := RX8) (T := TX8) (N := 29) (by decide) (by rfl) rfl (by decide) iX8_findSeen_8 (List.mem_of_getElem? (i := 3) rfl) rfl dX8_findSeen_77 rfl ?_
      refine zz_iload (npc := 82) 2 rfl dX8_findSeen_80 rfl ?_
      refine zz_iald (npc := 83) (by decide) (by rfl) dX8_findSeen_82 rfl ?_
      refine zz_iast (npc := 84) (by decide) (by rfl) dX8_findSeen_83 rfl (fun M10 => ?_)
      refine zz_iincB (npc := 87) (y4 + 1) (lv1 := fun v11 => [(4, .int v11), (0, .ref (eA E 57)), (3, .int y3)]) dX8_findSeen_84 rfl 2 rfl rfl (by decide) (fun _ => rfl) (fun v11 => ?_)
      refine zz_goto (npc := 0) (tgt := 55) dX8_findSeen_87 (by decide) ?_
      refine zz_sub (npc := 0) (lv1 := [(0, .ref (eA E 57)), (3, .int y3), (4, .int v11)]) [1, 2, 0] rfl ?_
      exact ih y3 v11 M10
noncomputable def fX8_findSeen_L7   : Nat → Int32 → Int32 → Int32 → Mem → Option (Int32 × Mem)
  | 0, _, _, _, _ => none
  | n + 1, y1, y2, y3, M => (ck (inb 4 56) (if (M 58 (ix 4)) ≤ y3 then (ck (inb 4 56) (bd (fX8_seenWays 9 y1 ((shl 1 (M 58 (ix 4))) - 1) y2 M) fun r3 M2 => (fX8_findSeen_L55  fu r3 0 M2))) else (bd (fX8_personIs y3 4 M) fun r5 M4 => (ck (inb y3 8) (wm (wr M4 65 (ix y3) r5) fun M6 => (bv (y3 + 1) fun v7 => (fX8_findSeen_L7  n y1 y2 v7 M6)))))))
set_option maxHeartbeats 4000000 in
set_option maxRecDepth 100000 in
theorem zX8_findSeen_L7 (E : EV) (l : Launch)     : ∀ (n : Nat) (y1 : Int32) (y2 : Int32) (y3 : Int32) (M : Mem), ZZ E l RX8 cX8_findSeen 5 (some .int) wsX8_findSeen rmX8_findSeen vI (fX8_findSeen_L7 n y1 y2 y3 M) M [(0, .ref (eA E 57)), (1, .int y1), (2, .int y2), (3, .int y3)] 7 [] := by
  intro n
  induction n with
  | zero => intros; exact zz_none
  | succ n ih =>
    intro y1 y2 y3 M
    rw [fX8_findSeen_L7]
    refine zz_iload_n (npc := 8) 3 rfl rfl dX8_findSeen_7 rfl ?_
    refine zz_aload_n (npc := 9) 0 rfl rfl dX8_findSeen_8 rfl ?_
    refine zz_getR (npc := 12) (i := 0) (C0 := RX8) (T := TX8) (N := 29) (by decide) (by rfl) rfl (by decide) iX8_findSeen_8 (List.mem_of_getElem? (i := 2) rfl) rfl dX8_findSeen_9 rfl ?_
    refine zz_iconst (npc := 13) 4 (by decide) dX8_findSeen_12 rfl ?_
    refine zz_iald (npc := 14) (by decide) (by rfl) dX8_findSeen_13 rfl ?_
    refine zz_icmp_ge (tgt := 35) (npc := 17) dX8_findSeen_14 (by decide) rfl ?_ ?_
    · refine zz_aload_n (npc := 36) 0 rfl rfl dX8_findSeen_35 rfl ?_
      refine zz_iload_n (npc := 37) 1 rfl rfl dX8_findSeen_36 rfl ?_
      refine zz_iconst (npc := 38) 1 (by decide) dX8_findSeen_37 rfl ?_
      refine zz_aload_n (npc := 39) 0 rfl rfl dX8_findSeen_38 rfl ?_
      refine zz_getR (npc := 42) (i := 0) (C0 := RX8) (T := TX8) (N := 29) (by decide) (by rfl) rfl (by decide) iX8_findSeen_8 (List.mem_of_getElem? (i := 2) rfl) rfl dX8_findSeen_39 rfl ?_
      refine zz_iconst (npc := 43) 4 (by decide) dX8_findSeen_42 rfl ?_
      refine zz_iald (npc := 44) (by decide) (by rfl) dX8_findSeen_43 rfl ?_
      refine zz_ishl (npc := 45) dX8_findSeen_44 rfl ?_
      refine zz_iconst (npc := 46) 1 (by decide) dX8_findSeen_45 rfl ?_
      refine zz_isub (npc := 47) dX8_findSeen_46 rfl ?_
      refine zz_iload_n (npc := 48) 2 rfl rfl dX8_findSeen_47 rfl ?_
      refine zz_callVi (npc := 51) (n := 3) (As := [.int y1, .int ((shl 1 (M 58 (ix 4))) - 1), .int y2]) (by decide) (by rfl) rfl gX8_findSeen_X8_seenWays rfl rfl rfl (by decide +kernel) ⟨Nat.le_of_ble_eq_true rfl, Nat.le_of_ble_eq_true rfl⟩ rfl rfl (Nat.le_of_ble_eq_true rfl) (mtX8_seenWays E l  9 y1 ((shl 1 (M 58 (ix 4))) - 1) y2 M) dX8_findSeen_48 rfl (fun r3 M2 _ => ?_)
      refine zz_istore_n (npc := 52) (lv1 := [(3, .int r3), (0, .ref (eA E 57)), (1, .int y1), (2, .int y2)]) rfl dX8_findSeen_51 rfl (by decide) rfl ?_
      refine zz_iconst (npc := 53) 0 (by decide) dX8_findSeen_52 rfl ?_
      refine zz_istore (npc := 55) (lv1 := [(4, .int 0), (3, .int r3), (0, .ref (eA E 57)), (1, .int y1), (2, .int y2)]) dX8_findSeen_53 rfl (by decide) rfl ?_
      refine zz_sub (npc := 0) (lv1 := [(0, .ref (eA E 57)), (3, .int r3), (4, .int 0)]) [2, 1, 0] rfl ?_
      exact zX8_findSeen_L55 E l  fu r3 0 M2
    · refine zz_aload_n (npc := 18) 0 rfl rfl dX8_findSeen_17 rfl ?_
      refine zz_getR (npc := 21) (i := 13) (C0 := RX8) (T := TX8) (N := 29) (by decide) (by rfl) rfl (by decide) iX8_findSeen_8 (List.mem_of_getElem? (i := 3) rfl) rfl dX8_findSeen_18 rfl ?_
      refine zz_iload_n (npc := 22) 3 rfl rfl dX8_findSeen_21 rfl ?_
      refine zz_aload_n (npc := 23) 0 rfl rfl dX8_findSeen_22 rfl ?_
      refine zz_iload_n (npc := 24) 3 rfl rfl dX8_findSeen_23 rfl ?_
      refine zz_iconst (npc := 25) 4 (by decide) dX8_findSeen_24 rfl ?_
      refine zz_callVi (npc := 28) (n := 2) (As := [.int y3, .int 4]) (by decide) (by rfl) rfl gX8_findSeen_X8_personIs rfl rfl rfl (by decide +kernel) ⟨Nat.le_of_ble_eq_true rfl, Nat.le_of_ble_eq_true rfl⟩ rfl rfl (Nat.le_of_ble_eq_true rfl) (mtX8_personIs E l  y3 4 M) dX8_findSeen_25 rfl (fun r5 M4 _ => ?_)
      refine zz_iast (npc := 29) (by decide) (by rfl) dX8_findSeen_28 rfl (fun M6 => ?_)
      refine zz_iincB (npc := 32) (y3 + 1) (lv1 := fun v7 => [(3, .int v7), (0, .ref (eA E 57)), (1, .int y1), (2, .int y2)]) dX8_findSeen_29 rfl 3 rfl rfl (by decide) (fun _ => rfl) (fun v7 => ?_)
      refine zz_goto (npc := 0) (tgt := 7) dX8_findSeen_32 (by decide) ?_
      refine zz_sub (npc := 0) (lv1 := [(0, .ref (eA E 57)), (1, .int y1), (2, .int y2), (3, .int v7)]) [1, 2, 3, 0] rfl ?_
      exact ih y1 y2 v7 M6
noncomputable def fX8_findSeen  (x1 : Int32) (x2 : Int32) (M : Mem) : Option (Int32 × Mem) := (wm (wr M 57 12 0) fun M1 => (fX8_findSeen_L7  fu x1 x2 0 M1))
set_option maxHeartbeats 4000000 in
set_option maxRecDepth 100000 in
theorem mtX8_findSeen (E : EV) (l : Launch)   (x1 : Int32) (x2 : Int32) (M : Mem) : CT E l yX8_findSeen wsX8_findSeen rmX8_findSeen vI [.ref (eA E 57), .int x1, .int x2] (fX8_findSeen x1 x2 M) M := by
  refine ct_of (cc := cX8_findSeen) (nL := 5) (ret := (some .int)) (by decide +kernel) rfl (Nat.le_of_ble_eq_true rfl) ?_
  show ZZ E l RX8 cX8_findSeen 5 (some .int) wsX8_findSeen rmX8_findSeen vI (fX8_findSeen x1 x2 M) M [(0, .ref (eA E 57)), (1, .int x1), (2, .int x2)] 0 []
  unfold fX8_findSeen
  refine zz_aload_n (npc := 1) 0 rfl rfl dX8_findSeen_0 rfl ?_
  refine zz_iconst (npc := 2) 0 (by decide) dX8_findSeen_1 rfl ?_
  refine zz_putI (npc := 5) (i := 12) (C0 := RX8) (T := TX8) (N := 29) (by decide) (by rfl) rfl (by decide) iX8_findSeen_8 (List.mem_of_getElem? (i := 1) rfl) tyX8_ok nmX8 rfl rfl rfl dX8_findSeen_2 rfl (fun M1 => ?_)
  refine zz_iconst (npc := 6) 0 (by decide) dX8_findSeen_5 rfl ?_
  refine zz_istore_n (npc := 7) (lv1 := [(3, .int 0), (0, .ref (eA E 57)), (1, .int x1), (2, .int x2)]) rfl dX8_findSeen_6 rfl (by decide) rfl ?_
  refine zz_sub (npc := 0) (lv1 := [(0, .ref (eA E 57)), (1, .int x1), (2, .int x2), (3, .int 0)]) [1, 2, 3, 0] rfl ?_
  exact zX8_findSeen_L7 E l  fu x1 x2 0 M1
abbrev rmX8_isSheet : Room := { frames := 1, cells := 0, slots := 0, locals := 22 }
noncomputable def fX8_isSheet  (x1 : Int32) (M : Mem) : Option (Int32 × Mem) := (bd (fX8_within x1 0 3 M) fun r2 M1 => (ck (isb r2) (some (r2, M1))))
set_option maxHeartbeats 4000000 in
set_option maxRecDepth 100000 in
theorem mtX8_isSheet (E : EV) (l : Launch)   (x1 : Int32) (M : Mem) : CT E l yX8_isSheet wsX8_isSheet rmX8_isSheet vI [.int x1] (fX8_isSheet x1 M) M := by
  refine ct_of (cc := cX8_isSheet) (nL := 1) (ret := (some .boolean)) (by decide +kernel) rfl (Nat.le_of_ble_eq_true rfl) ?_
  show ZZ E l RX8 cX8_isSheet 1 (some .boolean) wsX8_isSheet rmX8_isSheet vI (fX8_isSheet x1 M) M [(0, .int x1)] 0 []
  unfold fX8_isSheet
  refine zz_iload_n (npc := 1) 0 rfl rfl dX8_isSheet_0 rfl ?_
  refine zz_iconst (npc := 2) 0 (by decide) dX8_isSheet_1 rfl ?_
  refine zz_iconst (npc := 3) 3 (by decide) dX8_isSheet_2 rfl ?_
  refine zz_callSi (npc := 6) (n := 3) (As := [.int x1, .int 0, .int 3]) gX8_isSheet_X8_within rfl rfl rfl (by decide +kernel) ⟨Nat.le_of_ble_eq_true rfl, Nat.le_of_ble_eq_true rfl⟩ rfl rfl (Nat.le_of_ble_eq_true rfl) (mtX8_within E l  x1 0 3 M) dX8_isSheet_3 rfl (fun r2 M1 _ => ?_)
  exact zz_zret dX8_isSheet_6
abbrev rmX8_fits : Room := { frames := 19, cells := 0, slots := 0, locals := 813 }
theorem iX8_fits_8 : ∀ w ∈ u_ws RX8 TX8 29, w ∈ wsX8_fits := fun w h => List.mem_cons_of_mem _ (List.mem_append_right _ h)
noncomputable def fX8_fits  (x1 : Int32) (M : Mem) : Option (Int32 × Mem) := (bd (fX8_isSheet x1 M) fun r2 M1 => (if r2 = 0 then (bd (fX8_finding (-1000001) M1) fun r8 M7 => (some (r8, M7))) else (ck (inb x1 4) (if (M1 69 (ix x1)) = 0 then (bd (fX8_finding (-1000006) M1) fun r6 M5 => (some (r6, M5))) else (bd (fX8_findSeen x1 (-1) M1) fun r4 M3 => (some (r4, M3)))))))
set_option maxHeartbeats 4000000 in
set_option maxRecDepth 100000 in
theorem mtX8_fits (E : EV) (l : Launch)   (x1 : Int32) (M : Mem) : CT E l yX8_fits wsX8_fits rmX8_fits vI [.ref (eA E 57), .int x1] (fX8_fits x1 M) M := by
  refine ct_of (cc := cX8_fits) (nL := 2) (ret := (some .int)) (by decide +kernel) rfl (Nat.le_of_ble_eq_true rfl) ?_
  show ZZ E l RX8 cX8_fits 2 (some .int) wsX8_fits rmX8_fits vI (fX8_fits x1 M) M [(0, .ref (eA E 57)), (1, .int x1)] 0 []
  unfold fX8_fits
  refine zz_iload_n (npc := 1) 1 rfl rfl dX8_fits_0 rfl ?_
  refine zz_callSi (npc := 4) (n := 1) (As := [.int x1]) gX8_fits_X8_isSheet rfl rfl rfl (by decide +kernel) ⟨Nat.le_of_ble_eq_true rfl, Nat.le_of_ble_eq_true rfl⟩ rfl rfl (Nat.le_of_ble_eq_true rfl) (mtX8_isSheet E l  x1 M) dX8_fits_1 rfl (fun r2 M1 _ => ?_)
  refine zz_if_ne (tgt := 14) (npc := 7) dX8_fits_4 (by decide) rfl ?_ ?_
  · refine zz_aload_n (npc := 15) 0 rfl rfl dX8_fits_14 rfl ?_
    refine zz_getR (npc := 18) (i := 25) (C0 := RX8) (T := TX8) (N := 29) (by decide) (by rfl) rfl (by decide) iX8_fits_8 (List.mem_of_getElem? (i := 2) rfl) rfl dX8_fits_15 rfl ?_
    refine zz_iload_n (npc := 19) 1 rfl rfl dX8_fits_18 rfl ?_
    refine zz_iald (npc := 20) (by decide) (by rfl) dX8_fits_19 rfl ?_
    refine zz_if_ne (tgt := 32) (npc := 23) dX8_fits_20 (by decide) rfl ?_ ?_
    · refine zz_aload_n (npc := 33) 0 rfl rfl dX8_fits_32 rfl ?_
      refine zz_iload_n (npc := 34) 1 rfl rfl dX8_fits_33 rfl ?_
      refine zz_iconst (npc := 35) (-1) (by decide) dX8_fits_34 rfl ?_
      refine zz_callVi (npc := 38) (n := 2) (As := [.int x1, .int (-1)]) (by decide) (by rfl) rfl gX8_fits_X8_findSeen rfl rfl rfl (by decide +kernel) ⟨Nat.le_of_ble_eq_true rfl, Nat.le_of_ble_eq_true rfl⟩ rfl rfl (Nat.le_of_ble_eq_true rfl) (mtX8_findSeen E l  x1 (-1) M1) dX8_fits_35 rfl (fun r4 M3 _ => ?_)
      exact zz_iret dX8_fits_38
    · refine zz_aload_n (npc := 24) 0 rfl rfl dX8_fits_23 rfl ?_
      refine zz_ldc (npc := 26) (-1000006) (List.mem_of_getElem? (i := 3) rfl) dX8_fits_24 rfl ?_
      refine zz_callVi (npc := 29) (n := 1) (As := [.int (-1000006)]) (by decide) (by rfl) rfl gX8_fits_X8_finding rfl rfl rfl (by decide +kernel) ⟨Nat.le_of_ble_eq_true rfl, Nat.le_of_ble_eq_true rfl⟩ rfl rfl (Nat.le_of_ble_eq_true rfl) (mtX8_finding E l  (-1000006) M1) dX8_fits_26 rfl (fun r6 M5 _ => ?_)
      refine zz_goto (npc := 0) (tgt := 38) dX8_fits_29 (by decide) ?_
      exact zz_iret dX8_fits_38
  · refine zz_aload_n (npc := 8) 0 rfl rfl dX8_fits_7 rfl ?_
    refine zz_ldc (npc := 10) (-1000001) (List.mem_of_getElem? (i := 1) rfl) dX8_fits_8 rfl ?_
    refine zz_callVi (npc := 13) (n := 1) (As := [.int (-1000001)]) (by decide) (by rfl) rfl gX8_fits_X8_finding rfl rfl rfl (by decide +kernel) ⟨Nat.le_of_ble_eq_true rfl, Nat.le_of_ble_eq_true rfl⟩ rfl rfl (Nat.le_of_ble_eq_true rfl) (mtX8_finding E l  (-1000001) M1) dX8_fits_10 rfl (fun r8 M7 _ => ?_)
    exact zz_iret dX8_fits_13
abbrev rmX8_may : Room := { frames := 19, cells := 0, slots := 0, locals := 813 }
theorem iX8_may_8 : ∀ w ∈ u_ws RX8 TX8 29, w ∈ wsX8_may := fun w h => List.mem_cons_of_mem _ (List.mem_append_right _ h)
noncomputable def fX8_may  (x1 : Int32) (x2 : Int32) (M : Mem) : Option (Int32 × Mem) := (bd (fX8_isSheet x1 M) fun r2 M1 => (if r2 = 0 then (bd (fX8_finding (-1000001) M1) fun r12 M11 => (some (r12, M11))) else (ck (inb x1 4) (if (M1 69 (ix x1)) = 0 then (bd (fX8_finding (-1000006) M1) fun r10 M9 => (some (r10, M9))) else (bd (fX8_isPerson x2 M1) fun r4 M3 => (if r4 = 0 then (bd (fX8_finding (-1000001) M3) fun r8 M7 => (some (r8, M7))) else (bd (fX8_findSeen x1 x2 M3) fun r6 M5 => (if r6 = 0 then (some (0, M5)) else (some (M5 57 12, M5))))))))))
set_option maxHeartbeats 4000000 in
set_option maxRecDepth 100000 in
theorem mtX8_may (E : EV) (l : Launch)   (x1 : Int32) (x2 : Int32) (M : Mem) : CT E l yX8_may wsX8_may rmX8_may vI [.ref (eA E 57), .int x1, .int x2] (fX8_may x1 x2 M) M := by
  refine ct_of (cc := cX8_may) (nL := 3) (ret := (some .int)) (by decide +kernel) rfl (Nat.le_of_ble_eq_true rfl) ?_
  show ZZ E l RX8 cX8_may 3 (some .int) wsX8_may rmX8_may vI (fX8_may x1 x2 M) M [(0, .ref (eA E 57)), (1, .int x1), (2, .int x2)] 0 []
  unfold fX8_may
  refine zz_iload_n (npc := 1) 1 rfl rfl dX8_may_0 rfl ?_
  refine zz_callSi (npc := 4) (n := 1) (As := [.int x1]) gX8_may_X8_isSheet rfl rfl rfl (by decide +kernel) ⟨Nat.le_of_ble_eq_true rfl, Nat.le_of_ble_eq_true rfl⟩ rfl rfl (Nat.le_of_ble_eq_true rfl) (mtX8_isSheet E l  x1 M) dX8_may_1 rfl (fun r2 M1 _ => ?_)
  refine zz_if_ne (tgt := 14) (npc := 7) dX8_may_4 (by decide) rfl ?_ ?_
  · refine zz_aload_n (npc := 15) 0 rfl rfl dX8_may_14 rfl ?_
    refine zz_getR (npc := 18) (i := 25) (C0 := RX8) (T := TX8) (N := 29) (by decide) (by rfl) rfl (by decide) iX8_may_8 (List.mem_of_getElem? (i := 2) rfl) rfl dX8_may_15 rfl ?_
    refine zz_iload_n (npc := 19) 1 rfl rfl dX8_may_18 rfl ?_
    refine zz_iald (npc := 20) (by decide) (by rfl) dX8_may_19 rfl ?_
    refine zz_if_ne (tgt := 30) (npc := 23) dX8_may_20 (by decide) rfl ?_ ?_
    · refine zz_aload_n (npc := 31) 0 rfl rfl dX8_may_30 rfl ?_
      refine zz_iload_n (npc := 32) 2 rfl rfl dX8_may_31 rfl ?_
      refine zz_callVi (npc := 35) (n := 1) (As := [.int x2]) (by decide) (by rfl) rfl gX8_may_X8_isPerson rfl rfl rfl (by decide +kernel) ⟨Nat.le_of_ble_eq_true rfl, Nat.le_of_ble_eq_true rfl⟩ rfl rfl (Nat.le_of_ble_eq_true rfl) (mtX8_isPerson E l  x2 M1) dX8_may_32 rfl (fun r4 M3 _ => ?_)
      refine zz_if_ne (tgt := 45) (npc := 38) dX8_may_35 (by decide) rfl ?_ ?_
      · refine zz_aload_n (npc := 46) 0 rfl rfl dX8_may_45 rfl ?_
        refine zz_iload_n (npc := 47) 1 rfl rfl dX8_may_46 rfl ?_
        refine zz_iload_n (npc := 48) 2 rfl rfl dX8_may_47 rfl ?_
        refine zz_callVi (npc := 51) (n := 2) (As := [.int x1, .int x2]) (by decide) (by rfl) rfl gX8_may_X8_findSeen rfl rfl rfl (by decide +kernel) ⟨Nat.le_of_ble_eq_true rfl, Nat.le_of_ble_eq_true rfl⟩ rfl rfl (Nat.le_of_ble_eq_true rfl) (mtX8_findSeen E l  x1 x2 M3) dX8_may_48 rfl (fun r6 M5 _ => ?_)
        refine zz_if_ne (tgt := 58) (npc := 54) dX8_may_51 (by decide) rfl ?_ ?_
        · refine zz_aload_n (npc := 59) 0 rfl rfl dX8_may_58 rfl ?_
          refine zz_getI (npc := 62) (i := 12) (C0 := RX8) (T := TX8) (N := 29) (by decide) (by rfl) rfl (by decide) iX8_may_8 (List.mem_of_getElem? (i := 4) rfl) rfl dX8_may_59 rfl ?_
          exact zz_iret dX8_may_62
        · refine zz_iconst (npc := 55) 0 (by decide) dX8_may_54 rfl ?_
          refine zz_goto (npc := 0) (tgt := 62) dX8_may_55 (by decide) ?_
          exact zz_iret dX8_may_62
      · refine zz_aload_n (npc := 39) 0 rfl rfl dX8_may_38 rfl ?_
        refine zz_ldc (npc := 41) (-1000001) (List.mem_of_getElem? (i := 1) rfl) dX8_may_39 rfl ?_
        refine zz_callVi (npc := 44) (n := 1) (As := [.int (-1000001)]) (by decide) (by rfl) rfl gX8_may_X8_finding rfl rfl rfl (by decide +kernel) ⟨Nat.le_of_ble_eq_true rfl, Nat.le_of_ble_eq_true rfl⟩ rfl rfl (Nat.le_of_ble_eq_true rfl) (mtX8_finding E l  (-1000001) M3) dX8_may_41 rfl (fun r8 M7 _ => ?_)
        exact zz_iret dX8_may_44
    · refine zz_aload_n (npc := 24) 0 rfl rfl dX8_may_23 rfl ?_
      refine zz_ldc (npc := 26) (-1000006) (List.mem_of_getElem? (i := 3) rfl) dX8_may_24 rfl ?_
      refine zz_callVi (npc := 29) (n := 1) (As := [.int (-1000006)]) (by decide) (by rfl) rfl gX8_may_X8_finding rfl rfl rfl (by decide +kernel) ⟨Nat.le_of_ble_eq_true rfl, Nat.le_of_ble_eq_true rfl⟩ rfl rfl (Nat.le_of_ble_eq_true rfl) (mtX8_finding E l  (-1000006) M1) dX8_may_26 rfl (fun r10 M9 _ => ?_)
      exact zz_iret dX8_may_29
  · refine zz_aload_n (npc := 8) 0 rfl rfl dX8_may_7 rfl ?_
    refine zz_ldc (npc := 10) (-1000001) (List.mem_of_getElem? (i := 1) rfl) dX8_may_8 rfl ?_
    refine zz_callVi (npc := 13) (n := 1) (As := [.int (-1000001)]) (by decide) (by rfl) rfl gX8_may_X8_finding rfl rfl rfl (by decide +kernel) ⟨Nat.le_of_ble_eq_true rfl, Nat.le_of_ble_eq_true rfl⟩ rfl rfl (Nat.le_of_ble_eq_true rfl) (mtX8_finding E l  (-1000001) M1) dX8_may_10 rfl (fun r12 M11 _ => ?_)
    exact zz_iret dX8_may_13
abbrev rmX8_mightOf : Room := { frames := 2, cells := 0, slots := 0, locals := 43 }
noncomputable def fX8_mightOf  (x1 : Int32) (x2 : Int32) (M : Mem) : Option (Int32 × Mem) := (bd (fX8_personIs x1 2 M) fun r2 M1 => (bd (fX8_isLit 8 M1) fun r4 M3 => (if r4 = 0 then (some (r2 + 0, M3)) else (if x2 = x1 then (some (r2 + 3, M3)) else (some (r2 + 0, M3))))))
set_option maxHeartbeats 4000000 in
set_option maxRecDepth 100000 in
theorem mtX8_mightOf (E : EV) (l : Launch)   (x1 : Int32) (x2 : Int32) (M : Mem) : CT E l yX8_mightOf wsX8_mightOf rmX8_mightOf vI [.ref (eA E 57), .int x1, .int x2] (fX8_mightOf x1 x2 M) M := by
  refine ct_of (cc := cX8_mightOf) (nL := 3) (ret := (some .int)) (by decide +kernel) rfl (Nat.le_of_ble_eq_true rfl) ?_
  show ZZ E l RX8 cX8_mightOf 3 (some .int) wsX8_mightOf rmX8_mightOf vI (fX8_mightOf x1 x2 M) M [(0, .ref (eA E 57)), (1, .int x1), (2, .int x2)] 0 []
  unfold fX8_mightOf
  refine zz_aload_n (npc := 1) 0 rfl rfl dX8_mightOf_0 rfl ?_
  refine zz_iload_n (npc := 2) 1 rfl rfl dX8_mightOf_1 rfl ?_
  refine zz_iconst (npc := 3) 2 (by decide) dX8_mightOf_2 rfl ?_
  refine zz_callVi (npc := 6) (n := 2) (As := [.int x1, .int 2]) (by decide) (by rfl) rfl gX8_mightOf_X8_personIs rfl rfl rfl (by decide +kernel) ⟨Nat.le_of_ble_eq_true rfl, Nat.le_of_ble_eq_true rfl⟩ rfl rfl (Nat.le_of_ble_eq_true rfl) (mtX8_personIs E l  x1 2 M) dX8_mightOf_3 rfl (fun r2 M1 _ => ?_)
  refine zz_aload_n (npc := 7) 0 rfl rfl dX8_mightOf_6 rfl ?_
  refine zz_bipush (npc := 9) 8 (by decide) dX8_mightOf_7 rfl ?_
  refine zz_callVi (npc := 12) (n := 1) (As := [.int 8]) (by decide) (by rfl) rfl gX8_mightOf_X8_isLit rfl rfl rfl (by decide +kernel) ⟨Nat.le_of_ble_eq_true rfl, Nat.le_of_ble_eq_true rfl⟩ rfl rfl (Nat.le_of_ble_eq_true rfl) (mtX8_isLit E l  8 M1) dX8_mightOf_9 rfl (fun r4 M3 _ => ?_)
  refine zz_if_eq (tgt := 24) (npc := 15) dX8_mightOf_12 (by decide) rfl ?_ ?_
  · refine zz_iconst (npc := 25) 0 (by decide) dX8_mightOf_24 rfl ?_
    refine zz_iadd (npc := 26) dX8_mightOf_25 rfl ?_
    exact zz_iret dX8_mightOf_26
  · refine zz_iload_n (npc := 16) 2 rfl rfl dX8_mightOf_15 rfl ?_
    refine zz_iload_n (npc := 17) 1 rfl rfl dX8_mightOf_16 rfl ?_
    refine zz_icmp_ne (tgt := 24) (npc := 20) dX8_mightOf_17 (by decide) rfl ?_ ?_
    · refine zz_iconst (npc := 25) 0 (by decide) dX8_mightOf_24 rfl ?_
      refine zz_iadd (npc := 26) dX8_mightOf_25 rfl ?_
      exact zz_iret dX8_mightOf_26
    · refine zz_iconst (npc := 21) 3 (by decide) dX8_mightOf_20 rfl ?_
      refine zz_goto (npc := 0) (tgt := 25) dX8_mightOf_21 (by decide) ?_
      refine zz_iadd (npc := 26) dX8_mightOf_25 rfl ?_
      exact zz_iret dX8_mightOf_26
abbrev rmX8_duel : Room := { frames := 4, cells := 0, slots := 0, locals := 92 }
noncomputable def fX8_duel  (x1 : Int32) (x2 : Int32) (M : Mem) : Option (Int32 × Mem) := (bd (fX8_areTwo x1 x2 M) fun r2 M1 => (if r2 = 0 then (bd (fX8_finding (-1000001) M1) fun r12 M11 => (some (r12, M11))) else (bd (fX8_firstOf x1 x2 8 M1) fun r4 M3 => (bv (imin x1 x2) fun v5 => (bv (imax x1 x2) fun v6 => (bd (fX8_mightOf v6 r4 M3) fun r8 M7 => (bd (fX8_mightOf v5 r4 M7) fun r10 M9 => (if r8 ≤ r10 then (some (v5, M9)) else (some (v6, M9))))))))))
set_option maxHeartbeats 4000000 in
set_option maxRecDepth 100000 in
theorem mtX8_duel (E : EV) (l : Launch)   (x1 : Int32) (x2 : Int32) (M : Mem) : CT E l yX8_duel wsX8_duel rmX8_duel vI [.ref (eA E 57), .int x1, .int x2] (fX8_duel x1 x2 M) M := by
  refine ct_of (cc := cX8_duel) (nL := 6) (ret := (some .int)) (by decide +kernel) rfl (Nat.le_of_ble_eq_true rfl) ?_
  show ZZ E l RX8 cX8_duel 6 (some .int) wsX8_duel rmX8_duel vI (fX8_duel x1 x2 M) M [(0, .ref (eA E 57)), (1, .int x1), (2, .int x2)] 0 []
  unfold fX8_duel
  refine zz_aload_n (npc := 1) 0 rfl rfl dX8_duel_0 rfl ?_
  refine zz_iload_n (npc := 2) 1 rfl rfl dX8_duel_1 rfl ?_
  refine zz_iload_n (npc := 3) 2 rfl rfl dX8_duel_2 rfl ?_
  refine zz_callVi (npc := 6) (n := 2) (As := [.int x1, .int x2]) (by decide) (by rfl) rfl gX8_duel_X8_areTwo rfl rfl rfl (by decide +kernel) ⟨Nat.le_of_ble_eq_true rfl, Nat.le_of_ble_eq_true rfl⟩ rfl rfl (Nat.le_of_ble_eq_true rfl) (mtX8_areTwo E l  x1 x2 M) dX8_duel_3 rfl (fun r2 M1 _ => ?_)
  refine zz_if_ne (tgt := 16) (npc := 9) dX8_duel_6 (by decide) rfl ?_ ?_
  · refine zz_aload_n (npc := 17) 0 rfl rfl dX8_duel_16 rfl ?_
    refine zz_iload_n (npc := 18) 1 rfl rfl dX8_duel_17 rfl ?_
    refine zz_iload_n (npc := 19) 2 rfl rfl dX8_duel_18 rfl ?_
    refine zz_bipush (npc := 21) 8 (by decide) dX8_duel_19 rfl ?_
    refine zz_callVi (npc := 24) (n := 3) (As := [.int x1, .int x2, .int 8]) (by decide) (by rfl) rfl gX8_duel_X8_firstOf rfl rfl rfl (by decide +kernel) ⟨Nat.le_of_ble_eq_true rfl, Nat.le_of_ble_eq_true rfl⟩ rfl rfl (Nat.le_of_ble_eq_true rfl) (mtX8_firstOf E l  x1 x2 8 M1) dX8_duel_21 rfl (fun r4 M3 _ => ?_)
    refine zz_istore_n (npc := 25) (lv1 := [(3, .int r4), (0, .ref (eA E 57)), (1, .int x1), (2, .int x2)]) rfl dX8_duel_24 rfl (by decide) rfl ?_
    refine zz_iload_n (npc := 26) 2 rfl rfl dX8_duel_25 rfl ?_
    refine zz_iload_n (npc := 27) 3 rfl rfl dX8_duel_26 rfl ?_
    refine zz_mmin (npc := 30) (List.mem_of_getElem? (i := 2) rfl) (List.mem_of_getElem? (i := 3) rfl) (List.mem_of_getElem? (i := 4) rfl) (List.mem_of_getElem? (i := 5) rfl) (Nat.le_of_ble_eq_true rfl) (Nat.le_of_ble_eq_true rfl) dX8_duel_27 rfl ?_
    refine zz_istoreB (npc := 32) (lv1 := fun v5 => [(4, .int v5), (3, .int r4), (0, .ref (eA E 57)), (1, .int x1), (2, .int x2)]) dX8_duel_30 rfl (by decide) (fun _ => rfl) (fun v5 => ?_)
    refine zz_iload_n (npc := 33) 3 rfl rfl dX8_duel_32 rfl ?_
    refine zz_iload_n (npc := 34) 4 rfl rfl dX8_duel_33 rfl ?_
    refine zz_mmax (npc := 37) (List.mem_of_getElem? (i := 6) rfl) (List.mem_of_getElem? (i := 7) rfl) (List.mem_of_getElem? (i := 4) rfl) (List.mem_of_getElem? (i := 8) rfl) (Nat.le_of_ble_eq_true rfl) (Nat.le_of_ble_eq_true rfl) dX8_duel_34 rfl ?_
    refine zz_istoreB (npc := 39) (lv1 := fun v6 => [(5, .int v6), (4, .int v5), (3, .int r4), (0, .ref (eA E 57)), (1, .int x1), (2, .int x2)]) dX8_duel_37 rfl (by decide) (fun _ => rfl) (fun v6 => ?_)
    refine zz_aload_n (npc := 40) 3 rfl rfl dX8_duel_39 rfl ?_
    refine zz_iload (npc := 42) 0 rfl dX8_duel_40 rfl ?_
    refine zz_iload_n (npc := 43) 2 rfl rfl dX8_duel_42 rfl ?_
    refine zz_callVi (npc := 46) (n := 2) (As := [.int v6, .int r4]) (by decide) (by rfl) rfl gX8_duel_X8_mightOf rfl rfl rfl (by decide +kernel) ⟨Nat.le_of_ble_eq_true rfl, Nat.le_of_ble_eq_true rfl⟩ rfl rfl (Nat.le_of_ble_eq_true rfl) (mtX8_mightOf E l  v6 r4 M3) dX8_duel_43 rfl (fun r8 M7 _ => ?_)
    refine zz_aload_n (npc := 47) 3 rfl rfl dX8_duel_46 rfl ?_
    refine zz_iload (npc := 49) 1 rfl dX8_duel_47 rfl ?_
    refine zz_iload_n (npc := 50) 2 rfl rfl dX8_duel_49 rfl ?_
    refine zz_callVi (npc := 53) (n := 2) (As := [.int v5, .int r4]) (by decide) (by rfl) rfl gX8_duel_X8_mightOf rfl rfl rfl (by decide +kernel) ⟨Nat.le_of_ble_eq_true rfl, Nat.le_of_ble_eq_true rfl⟩ rfl rfl (Nat.le_of_ble_eq_true rfl) (mtX8_mightOf E l  v5 r4 M7) dX8_duel_50 rfl (fun r10 M9 _ => ?_)
    refine zz_icmp_le (tgt := 61) (npc := 56) dX8_duel_53 (by decide) rfl ?_ ?_
    · refine zz_iload (npc := 63) 1 rfl dX8_duel_61 rfl ?_
      exact zz_iret dX8_duel_63
    · refine zz_iload (npc := 58) 0 rfl dX8_duel_56 rfl ?_
      refine zz_goto (npc := 0) (tgt := 63) dX8_duel_58 (by decide) ?_
      exact zz_iret dX8_duel_63
  · refine zz_aload_n (npc := 10) 0 rfl rfl dX8_duel_9 rfl ?_
    refine zz_ldc (npc := 12) (-1000001) (List.mem_of_getElem? (i := 1) rfl) dX8_duel_10 rfl ?_
    refine zz_callVi (npc := 15) (n := 1) (As := [.int (-1000001)]) (by decide) (by rfl) rfl gX8_duel_X8_finding rfl rfl rfl (by decide +kernel) ⟨Nat.le_of_ble_eq_true rfl, Nat.le_of_ble_eq_true rfl⟩ rfl rfl (Nat.le_of_ble_eq_true rfl) (mtX8_finding E l  (-1000001) M1) dX8_duel_12 rfl (fun r12 M11 _ => ?_)
    exact zz_iret dX8_duel_15
abbrev rmX8_common : Room := { frames := 0, cells := 0, slots := 0, locals := 0 }
noncomputable def fX8_common_L4   : Nat → Int32 → Int32 → Mem → Option (Int32 × Mem)
  | 0, _, _, _ => none
  | n + 1, y2, y3, M => (if y3 = 0 then (some (y2, M)) else (ck (!decide (y3 = 0)) (bv (irm y2 y3) fun v1 => (fX8_common_L4  n y3 v1 M))))
set_option maxHeartbeats 4000000 in
set_option maxRecDepth 100000 in
theorem zX8_common_L4 (E : EV) (l : Launch)     : ∀ (n : Nat) (y2 : Int32) (y3 : Int32) (M : Mem), ZZ E l RX8 cX8_common 5 (some .int) wsX8_common rmX8_common vI (fX8_common_L4 n y2 y3 M) M [(2, .int y2), (3, .int y3)] 4 [] := by
  intro n
  induction n with
  | zero => intros; exact zz_none
  | succ n ih =>
    intro y2 y3 M
    rw [fX8_common_L4]
    refine zz_iload_n (npc := 5) 1 rfl rfl dX8_common_4 rfl ?_
    refine zz_if_eq (tgt := 21) (npc := 8) dX8_common_5 (by decide) rfl ?_ ?_
    · refine zz_iload_n (npc := 22) 0 rfl rfl dX8_common_21 rfl ?_
      exact zz_iret dX8_common_22
    · refine zz_iload_n (npc := 9) 0 rfl rfl dX8_common_8 rfl ?_
      refine zz_iload_n (npc := 10) 1 rfl rfl dX8_common_9 rfl ?_
      refine zz_iremg (npc := 11) dX8_common_10 rfl ?_
      refine zz_istoreB (npc := 13) (lv1 := fun v1 => [(4, .int v1), (2, .int y2), (3, .int y3)]) dX8_common_11 rfl (by decide) (fun _ => rfl) (fun v1 => ?_)
      refine zz_iload_n (npc := 14) 2 rfl rfl dX8_common_13 rfl ?_
      refine zz_istore_n (npc := 15) (lv1 := [(2, .int y3), (4, .int v1), (3, .int y3)]) rfl dX8_common_14 rfl (by decide) rfl ?_
      refine zz_iload (npc := 17) 1 rfl dX8_common_15 rfl ?_
      refine zz_istore_n (npc := 18) (lv1 := [(3, .int v1), (2, .int y3), (4, .int v1)]) rfl dX8_common_17 rfl (by decide) rfl ?_
      refine zz_goto (npc := 0) (tgt := 4) dX8_common_18 (by decide) ?_
      refine zz_sub (npc := 0) (lv1 := [(2, .int y3), (3, .int v1)]) [1, 0] rfl ?_
      exact ih y3 v1 M
noncomputable def fX8_common  (x1 : Int32) (x2 : Int32) (M : Mem) : Option (Int32 × Mem) := (fX8_common_L4  fu x1 x2 M)
set_option maxHeartbeats 4000000 in
set_option maxRecDepth 100000 in
theorem mtX8_common (E : EV) (l : Launch)   (x1 : Int32) (x2 : Int32) (M : Mem) : CT E l yX8_common wsX8_common rmX8_common vI [.int x1, .int x2] (fX8_common x1 x2 M) M := by
  refine ct_of (cc := cX8_common) (nL := 5) (ret := (some .int)) (by decide +kernel) rfl (Nat.le_of_ble_eq_true rfl) ?_
  show ZZ E l RX8 cX8_common 5 (some .int) wsX8_common rmX8_common vI (fX8_common x1 x2 M) M [(0, .int x1), (1, .int x2)] 0 []
  unfold fX8_common
  refine zz_iload_n (npc := 1) 0 rfl rfl dX8_common_0 rfl ?_
  refine zz_istore_n (npc := 2) (lv1 := [(2, .int x1), (0, .int x1), (1, .int x2)]) rfl dX8_common_1 rfl (by decide) rfl ?_
  refine zz_iload_n (npc := 3) 2 rfl rfl dX8_common_2 rfl ?_
  refine zz_istore_n (npc := 4) (lv1 := [(3, .int x2), (2, .int x1), (0, .int x1), (1, .int x2)]) rfl dX8_common_3 rfl (by decide) rfl ?_
  refine zz_sub (npc := 0) (lv1 := [(2, .int x1), (3, .int x2)]) [1, 0] rfl ?_
  exact zX8_common_L4 E l  fu x1 x2 M
abbrev rmX8_lanterns : Room := { frames := 1, cells := 0, slots := 0, locals := 24 }
noncomputable def fX8_lanterns_L29    (M : Mem) : Option (Int64 × Mem) := (bd (fX8_finding (-1000001) M) fun r10 M9 => (some ((r10).toInt64, M9)))
set_option maxHeartbeats 4000000 in
set_option maxRecDepth 100000 in
theorem zX8_lanterns_L29 (E : EV) (l : Launch)     : ∀  (M : Mem), ZZ E l RX8 cX8_lanterns 10 (some .long) wsX8_lanterns rmX8_lanterns vL (fX8_lanterns_L29 M) M [(0, .ref (eA E 57))] 29 [] := by
  intro M
  unfold fX8_lanterns_L29
  refine zz_aload_n (npc := 30) 0 rfl rfl dX8_lanterns_29 rfl ?_
  refine zz_ldc (npc := 32) (-1000001) (List.mem_of_getElem? (i := 1) rfl) dX8_lanterns_30 rfl ?_
  refine zz_callVi (npc := 35) (n := 1) (As := [.int (-1000001)]) (by decide) (by rfl) rfl gX8_lanterns_X8_finding rfl rfl rfl (by decide +kernel) ⟨Nat.le_of_ble_eq_true rfl, Nat.le_of_ble_eq_true rfl⟩ rfl rfl (Nat.le_of_ble_eq_true rfl) (mtX8_finding E l  (-1000001) M) dX8_lanterns_32 rfl (fun r10 M9 _ => ?_)
  refine zz_i2l (npc := 36) dX8_lanterns_35 rfl ?_
  exact zz_lret dX8_lanterns_36
noncomputable def fX8_lanterns_L57   : Nat → Int32 → Int32 → Int32 → Int32 → Int64 → Int64 → Int32 → Mem → Option (Int64 × Mem)
  | 0, _, _, _, _, _, _, _, _ => none
  | n + 1, y1, y2, y3, y4, y5, y7, y9, M => (if y1 ≤ y9 then (if y3 = 0 then (some (y5, M)) else (some (y7, M))) else (ck (!decide (y4 = 0)) (bv (y5 * (((10 - y2) / y4).toInt64)) fun v11 => (ck (!decide (y4 = 0)) (bv (y7 * ((10 / y4).toInt64)) fun v12 => (bv (y9 + 1) fun v13 => (fX8_lanterns_L57  n y1 y2 y3 y4 v11 v12 v13 M)))))))
set_option maxHeartbeats 4000000 in
set_option maxRecDepth 100000 in
theorem zX8_lanterns_L57 (E : EV) (l : Launch)     : ∀ (n : Nat) (y1 : Int32) (y2 : Int32) (y3 : Int32) (y4 : Int32) (y5 : Int64) (y7 : Int64) (y9 : Int32) (M : Mem), ZZ E l RX8 cX8_lanterns 10 (some .long) wsX8_lanterns rmX8_lanterns vL (fX8_lanterns_L57 n y1 y2 y3 y4 y5 y7 y9 M) M [(1, .int y1), (2, .int y2), (3, .int y3), (4, .int y4), (5, .long y5), (7, .long y7), (9, .int y9)] 57 [] := by
  intro n
  induction n with
  | zero => intros; exact zz_none
  | succ n ih =>
    intro y1 y2 y3 y4 y5 y7 y9 M
    rw [fX8_lanterns_L57]
    refine zz_iload (npc := 59) 6 rfl dX8_lanterns_57 rfl ?_
    refine zz_iload_n (npc := 60) 0 rfl rfl dX8_lanterns_59 rfl ?_
    refine zz_icmp_ge (tgt := 93) (npc := 63) dX8_lanterns_60 (by decide) rfl ?_ ?_
    · refine zz_iload_n (npc := 94) 2 rfl rfl dX8_lanterns_93 rfl ?_
      refine zz_if_ne (tgt := 102) (npc := 97) dX8_lanterns_94 (by decide) rfl ?_ ?_
      · refine zz_lload (npc := 104) 5 rfl dX8_lanterns_102 rfl ?_
        exact zz_lret dX8_lanterns_104
      · refine zz_lload (npc := 99) 4 rfl dX8_lanterns_97 rfl ?_
        refine zz_goto (npc := 0) (tgt := 104) dX8_lanterns_99 (by decide) ?_
        exact zz_lret dX8_lanterns_104
    · refine zz_lload (npc := 65) 4 rfl dX8_lanterns_63 rfl ?_
      refine zz_bipush (npc := 67) 10 (by decide) dX8_lanterns_65 rfl ?_
      refine zz_iload_n (npc := 68) 1 rfl rfl dX8_lanterns_67 rfl ?_
      refine zz_isub (npc := 69) dX8_lanterns_68 rfl ?_
      refine zz_iload (npc := 71) 3 rfl dX8_lanterns_69 rfl ?_
      refine zz_idivg (npc := 72) dX8_lanterns_71 rfl ?_
      refine zz_i2l (npc := 73) dX8_lanterns_72 rfl ?_
      refine zz_lmul (npc := 74) dX8_lanterns_73 rfl ?_
      refine zz_lstoreB (npc := 76) (lv1 := fun v11 => [(5, .long v11), (1, .int y1), (2, .int y2), (3, .int y3), (4, .int y4), (7, .long y7), (9, .int y9)]) dX8_lanterns_74 rfl (by decide) (fun _ => rfl) (fun v11 => ?_)
      refine zz_lload (npc := 78) 5 rfl dX8_lanterns_76 rfl ?_
      refine zz_bipush (npc := 80) 10 (by decide) dX8_lanterns_78 rfl ?_
      refine zz_iload (npc := 82) 4 rfl dX8_lanterns_80 rfl ?_
      refine zz_idivg (npc := 83) dX8_lanterns_82 rfl ?_
      refine zz_i2l (npc := 84) dX8_lanterns_83 rfl ?_
      refine zz_lmul (npc := 85) dX8_lanterns_84 rfl ?_
      refine zz_lstoreB (npc := 87) (lv1 := fun v12 => [(7, .long v12), (5, .long v11), (1, .int y1), (2, .int y2), (3, .int y3), (4, .int y4), (9, .int y9)]) dX8_lanterns_85 rfl (by decide) (fun _ => rfl) (fun v12 => ?_)
      refine zz_iincB (npc := 90) (y9 + 1) (lv1 := fun v13 => [(9, .int v13), (7, .long v12), (5, .long v11), (1, .int y1), (2, .int y2), (3, .int y3), (4, .int y4)]) dX8_lanterns_87 rfl 6 rfl rfl (by decide) (fun _ => rfl) (fun v13 => ?_)
      refine zz_goto (npc := 0) (tgt := 57) dX8_lanterns_90 (by decide) ?_
      refine zz_sub (npc := 0) (lv1 := [(1, .int y1), (2, .int y2), (3, .int y3), (4, .int y4), (5, .long v11), (7, .long v12), (9, .int v13)]) [3, 4, 5, 6, 2, 1, 0] rfl ?_
      exact ih y1 y2 y3 y4 v11 v12 v13 M
noncomputable def fX8_lanterns  (x1 : Int32) (x2 : Int32) (x3 : Int32) (M : Mem) : Option (Int64 × Mem) := (bd (fX8_within x1 0 15 M) fun r2 M1 => (if r2 = 0 then (fX8_lanterns_L29  M1) else (bd (fX8_within x2 0 10 M1) fun r4 M3 => (if r4 = 0 then (fX8_lanterns_L29  M3) else (bd (fX8_within x3 0 1 M3) fun r6 M5 => (if r6 = 0 then (fX8_lanterns_L29  M5) else (bd (fX8_common (10 - x2) 10 M5) fun r8 M7 => (fX8_lanterns_L57  fu x1 x2 x3 r8 1 1 0 M7))))))))
set_option maxHeartbeats 4000000 in
set_option maxRecDepth 100000 in
theorem mtX8_lanterns (E : EV) (l : Launch)   (x1 : Int32) (x2 : Int32) (x3 : Int32) (M : Mem) : CT E l yX8_lanterns wsX8_lanterns rmX8_lanterns vL [.ref (eA E 57), .int x1, .int x2, .int x3] (fX8_lanterns x1 x2 x3 M) M := by
  refine ct_of (cc := cX8_lanterns) (nL := 10) (ret := (some .long)) (by decide +kernel) rfl (Nat.le_of_ble_eq_true rfl) ?_
  show ZZ E l RX8 cX8_lanterns 10 (some .long) wsX8_lanterns rmX8_lanterns vL (fX8_lanterns x1 x2 x3 M) M [(0, .ref (eA E 57)), (1, .int x1), (2, .int x2), (3, .int x3)] 0 []
  unfold fX8_lanterns
  refine zz_iload_n (npc := 1) 1 rfl rfl dX8_lanterns_0 rfl ?_
  refine zz_iconst (npc := 2) 0 (by decide) dX8_lanterns_1 rfl ?_
  refine zz_bipush (npc := 4) 15 (by decide) dX8_lanterns_2 rfl ?_
  refine zz_callSi (npc := 7) (n := 3) (As := [.int x1, .int 0, .int 15]) gX8_lanterns_X8_within rfl rfl rfl (by decide +kernel) ⟨Nat.le_of_ble_eq_true rfl, Nat.le_of_ble_eq_true rfl⟩ rfl rfl (Nat.le_of_ble_eq_true rfl) (mtX8_within E l  x1 0 15 M) dX8_lanterns_4 rfl (fun r2 M1 _ => ?_)
  refine zz_if_eq (tgt := 29) (npc := 10) dX8_lanterns_7 (by decide) rfl ?_ ?_
  · refine zz_sub (npc := 0) (lv1 := [(0, .ref (eA E 57))]) [0] rfl ?_
    exact zX8_lanterns_L29 E l  M1
  · refine zz_iload_n (npc := 11) 2 rfl rfl dX8_lanterns_10 rfl ?_
    refine zz_iconst (npc := 12) 0 (by decide) dX8_lanterns_11 rfl ?_
    refine zz_bipush (npc := 14) 10 (by decide) dX8_lanterns_12 rfl ?_
    refine zz_callSi (npc := 17) (n := 3) (As := [.int x2, .int 0, .int 10]) gX8_lanterns_X8_within rfl rfl rfl (by decide +kernel) ⟨Nat.le_of_ble_eq_true rfl, Nat.le_of_ble_eq_true rfl⟩ rfl rfl (Nat.le_of_ble_eq_true rfl) (mtX8_within E l  x2 0 10 M1) dX8_lanterns_14 rfl (fun r4 M3 _ => ?_)
    refine zz_if_eq (tgt := 29) (npc := 20) dX8_lanterns_17 (by decide) rfl ?_ ?_
    · refine zz_sub (npc := 0) (lv1 := [(0, .ref (eA E 57))]) [0] rfl ?_
      exact zX8_lanterns_L29 E l  M3
    · refine zz_iload_n (npc := 21) 3 rfl rfl dX8_lanterns_20 rfl ?_
      refine zz_iconst (npc := 22) 0 (by decide) dX8_lanterns_21 rfl ?_
      refine zz_iconst (npc := 23) 1 (by decide) dX8_lanterns_22 rfl ?_
      refine zz_callSi (npc := 26) (n := 3) (As := [.int x3, .int 0, .int 1]) gX8_lanterns_X8_within rfl rfl rfl (by decide +kernel) ⟨Nat.le_of_ble_eq_true rfl, Nat.le_of_ble_eq_true rfl⟩ rfl rfl (Nat.le_of_ble_eq_true rfl) (mtX8_within E l  x3 0 1 M3) dX8_lanterns_23 rfl (fun r6 M5 _ => ?_)
      refine zz_if_ne (tgt := 37) (npc := 29) dX8_lanterns_26 (by decide) rfl ?_ ?_
      · refine zz_bipush (npc := 39) 10 (by decide) dX8_lanterns_37 rfl ?_
        refine zz_iload_n (npc := 40) 2 rfl rfl dX8_lanterns_39 rfl ?_
        refine zz_isub (npc := 41) dX8_lanterns_40 rfl ?_
        refine zz_bipush (npc := 43) 10 (by decide) dX8_lanterns_41 rfl ?_
        refine zz_callSi (npc := 46) (n := 2) (As := [.int (10 - x2), .int 10]) gX8_lanterns_X8_common rfl rfl rfl (by decide +kernel) ⟨Nat.le_of_ble_eq_true rfl, Nat.le_of_ble_eq_true rfl⟩ rfl rfl (Nat.le_of_ble_eq_true rfl) (mtX8_common E l  (10 - x2) 10 M5) dX8_lanterns_43 rfl (fun r8 M7 _ => ?_)
        refine zz_istore (npc := 48) (lv1 := [(4, .int r8), (0, .ref (eA E 57)), (1, .int x1), (2, .int x2), (3, .int x3)]) dX8_lanterns_46 rfl (by decide) rfl ?_
        refine zz_lconst (npc := 49) 1 (by decide) dX8_lanterns_48 rfl ?_
        refine zz_lstore (npc := 51) (lv1 := [(5, .long 1), (4, .int r8), (0, .ref (eA E 57)), (1, .int x1), (2, .int x2), (3, .int x3)]) dX8_lanterns_49 rfl (by decide) rfl ?_
        refine zz_lconst (npc := 52) 1 (by decide) dX8_lanterns_51 rfl ?_
        refine zz_lstore (npc := 54) (lv1 := [(7, .long 1), (5, .long 1), (4, .int r8), (0, .ref (eA E 57)), (1, .int x1), (2, .int x2), (3, .int x3)]) dX8_lanterns_52 rfl (by decide) rfl ?_
        refine zz_iconst (npc := 55) 0 (by decide) dX8_lanterns_54 rfl ?_
        refine zz_istore (npc := 57) (lv1 := [(9, .int 0), (7, .long 1), (5, .long 1), (4, .int r8), (0, .ref (eA E 57)), (1, .int x1), (2, .int x2), (3, .int x3)]) dX8_lanterns_55 rfl (by decide) rfl ?_
        refine zz_sub (npc := 0) (lv1 := [(1, .int x1), (2, .int x2), (3, .int x3), (4, .int r8), (5, .long 1), (7, .long 1), (9, .int 0)]) [5, 6, 7, 3, 2, 1, 0] rfl ?_
        exact zX8_lanterns_L57 E l  fu x1 x2 x3 r8 1 1 0 M7
      · refine zz_sub (npc := 0) (lv1 := [(0, .ref (eA E 57))]) [0] rfl ?_
        exact zX8_lanterns_L29 E l  M5
abbrev rmX8_drawn : Room := { frames := 0, cells := 0, slots := 0, locals := 0 }
theorem iX8_drawn_8 : ∀ w ∈ u_ws RX8 TX8 29, w ∈ wsX8_drawn := fun w h => List.mem_cons_of_mem _ (List.mem_append_right _ h)
noncomputable def fX8_drawn   (M : Mem) : Option (Int32 × Mem) := (ck (inb 5 56) (ck (inb 5 56) (wm (wr M 58 (ix 5) (((M 58 (ix 5)) * 1103515245) + 12345)) fun M1 => (ck (inb 5 56) (some (ush (M1 58 (ix 5)) 8, M1))))))
set_option maxHeartbeats 4000000 in
set_option maxRecDepth 100000 in
theorem mtX8_drawn (E : EV) (l : Launch)    (M : Mem) : CT E l yX8_drawn wsX8_drawn rmX8_drawn vI [.ref (eA E 57)] (fX8_drawn  M) M := by
  refine ct_of (cc := cX8_drawn) (nL := 1) (ret := (some .int)) (by decide +kernel) rfl (Nat.le_of_ble_eq_true rfl) ?_
  show ZZ E l RX8 cX8_drawn 1 (some .int) wsX8_drawn rmX8_drawn vI (fX8_drawn  M) M [(0, .ref (eA E 57))] 0 []
  unfold fX8_drawn
  refine zz_aload_n (npc := 1) 0 rfl rfl dX8_drawn_0 rfl ?_
  refine zz_getR (npc := 4) (i := 0) (C0 := RX8) (T := TX8) (N := 29) (by decide) (by rfl) rfl (by decide) iX8_drawn_8 (List.mem_of_getElem? (i := 1) rfl) rfl dX8_drawn_1 rfl ?_
  refine zz_iconst (npc := 5) 5 (by decide) dX8_drawn_4 rfl ?_
  refine zz_aload_n (npc := 6) 0 rfl rfl dX8_drawn_5 rfl ?_
  refine zz_getR (npc := 9) (i := 0) (C0 := RX8) (T := TX8) (N := 29) (by decide) (by rfl) rfl (by decide) iX8_drawn_8 (List.mem_of_getElem? (i := 1) rfl) rfl dX8_drawn_6 rfl ?_
  refine zz_iconst (npc := 10) 5 (by decide) dX8_drawn_9 rfl ?_
  refine zz_iald (npc := 11) (by decide) (by rfl) dX8_drawn_10 rfl ?_
  refine zz_ldc (npc := 13) 1103515245 (List.mem_of_getElem? (i := 2) rfl) dX8_drawn_11 rfl ?_
  refine zz_imul (npc := 14) dX8_drawn_13 rfl ?_
  refine zz_sipush (npc := 17) 12345 (by decide) dX8_drawn_14 rfl ?_
  refine zz_iadd (npc := 18) dX8_drawn_17 rfl ?_
  refine zz_iast (npc := 19) (by decide) (by rfl) dX8_drawn_18 rfl (fun M1 => ?_)
  refine zz_aload_n (npc := 20) 0 rfl rfl dX8_drawn_19 rfl ?_
  refine zz_getR (npc := 23) (i := 0) (C0 := RX8) (T := TX8) (N := 29) (by decide) (by rfl) rfl (by decide) iX8_drawn_8 (List.mem_of_getElem? (i := 1) rfl) rfl dX8_drawn_20 rfl ?_
  refine zz_iconst (npc := 24) 5 (by decide) dX8_drawn_23 rfl ?_
  refine zz_iald (npc := 25) (by decide) (by rfl) dX8_drawn_24 rfl ?_
  refine zz_bipush (npc := 27) 8 (by decide) dX8_drawn_25 rfl ?_
  refine zz_iushr (npc := 28) dX8_drawn_27 rfl ?_
  exact zz_iret dX8_drawn_28
abbrev rmX8_days : Room := { frames := 8, cells := 0, slots := 0, locals := 186 }
theorem iX8_days_8 : ∀ w ∈ u_ws RX8 TX8 29, w ∈ wsX8_days := fun w h => List.mem_cons_of_mem _ (List.mem_append_right _ h)
noncomputable def fX8_days_L39    (M : Mem) : Option (Int32 × Mem) := (bd (fX8_finding (-1000005) M) fun r6 M5 => (some (r6, M5)))
set_option maxHeartbeats 4000000 in
set_option maxRecDepth 100000 in
theorem zX8_days_L39 (E : EV) (l : Launch)     : ∀  (M : Mem), ZZ E l RX8 cX8_days 4 (some .int) wsX8_days rmX8_days vI (fX8_days_L39 M) M [(0, .ref (eA E 57))] 39 [] := by
  intro M
  unfold fX8_days_L39
  refine zz_aload_n (npc := 40) 0 rfl rfl dX8_days_39 rfl ?_
  refine zz_ldc (npc := 42) (-1000005) (List.mem_of_getElem? (i := 4) rfl) dX8_days_40 rfl ?_
  refine zz_callVi (npc := 45) (n := 1) (As := [.int (-1000005)]) (by decide) (by rfl) rfl gX8_days_X8_finding rfl rfl rfl (by decide +kernel) ⟨Nat.le_of_ble_eq_true rfl, Nat.le_of_ble_eq_true rfl⟩ rfl rfl (Nat.le_of_ble_eq_true rfl) (mtX8_finding E l  (-1000005) M) dX8_days_42 rfl (fun r6 M5 _ => ?_)
  exact zz_iret dX8_days_45
noncomputable def fX8_days_L50   : Nat → Int32 → Int32 → Int32 → Mem → Option (Int32 × Mem)
  | 0, _, _, _, _ => none
  | n + 1, y1, y2, y3, M => (if y1 ≤ y3 then (some (y2, M)) else (bd (fX8_drawn M) fun r8 M7 => (ck (inb 3 56) (wm (wr M7 58 (ix 3) (r8 &&& 65535)) fun M9 => (ck (inb 0 56) (wm (wr M9 58 (ix 0) 0) fun M10 => (bd (fX8_hoursGo 16 M10) fun r12 M11 => (bv (y3 + 1) fun v13 => (fX8_days_L50  n y1 r12 v13 M11)))))))))
set_option maxHeartbeats 4000000 in
set_option maxRecDepth 100000 in
theorem zX8_days_L50 (E : EV) (l : Launch)     : ∀ (n : Nat) (y1 : Int32) (y2 : Int32) (y3 : Int32) (M : Mem), ZZ E l RX8 cX8_days 4 (some .int) wsX8_days rmX8_days vI (fX8_days_L50 n y1 y2 y3 M) M [(0, .ref (eA E 57)), (1, .int y1), (2, .int y2), (3, .int y3)] 50 [] := by
  intro n
  induction n with
  | zero => intros; exact zz_none
  | succ n ih =>
    intro y1 y2 y3 M
    rw [fX8_days_L50]
    refine zz_iload_n (npc := 51) 3 rfl rfl dX8_days_50 rfl ?_
    refine zz_iload_n (npc := 52) 1 rfl rfl dX8_days_51 rfl ?_
    refine zz_icmp_ge (tgt := 88) (npc := 55) dX8_days_52 (by decide) rfl ?_ ?_
    · refine zz_iload_n (npc := 89) 2 rfl rfl dX8_days_88 rfl ?_
      exact zz_iret dX8_days_89
    · refine zz_aload_n (npc := 56) 0 rfl rfl dX8_days_55 rfl ?_
      refine zz_getR (npc := 59) (i := 0) (C0 := RX8) (T := TX8) (N := 29) (by decide) (by rfl) rfl (by decide) iX8_days_8 (List.mem_of_getElem? (i := 2) rfl) rfl dX8_days_56 rfl ?_
      refine zz_iconst (npc := 60) 3 (by decide) dX8_days_59 rfl ?_
      refine zz_aload_n (npc := 61) 0 rfl rfl dX8_days_60 rfl ?_
      refine zz_callVi (npc := 64) (n := 0) (As := []) (by decide) (by rfl) rfl gX8_days_X8_drawn rfl rfl rfl (by decide +kernel) ⟨Nat.le_of_ble_eq_true rfl, Nat.le_of_ble_eq_true rfl⟩ rfl rfl (Nat.le_of_ble_eq_true rfl) (mtX8_drawn E l   M) dX8_days_61 rfl (fun r8 M7 _ => ?_)
      refine zz_ldc (npc := 66) 65535 (List.mem_of_getElem? (i := 5) rfl) dX8_days_64 rfl ?_
      refine zz_iand (npc := 67) dX8_days_66 rfl ?_
      refine zz_iast (npc := 68) (by decide) (by rfl) dX8_days_67 rfl (fun M9 => ?_)
      refine zz_aload_n (npc := 69) 0 rfl rfl dX8_days_68 rfl ?_
      refine zz_getR (npc := 72) (i := 0) (C0 := RX8) (T := TX8) (N := 29) (by decide) (by rfl) rfl (by decide) iX8_days_8 (List.mem_of_getElem? (i := 2) rfl) rfl dX8_days_69 rfl ?_
      refine zz_iconst (npc := 73) 0 (by decide) dX8_days_72 rfl ?_
      refine zz_iconst (npc := 74) 0 (by decide) dX8_days_73 rfl ?_
      refine zz_iast (npc := 75) (by decide) (by rfl) dX8_days_74 rfl (fun M10 => ?_)
      refine zz_aload_n (npc := 76) 0 rfl rfl dX8_days_75 rfl ?_
      refine zz_bipush (npc := 78) 16 (by decide) dX8_days_76 rfl ?_
      refine zz_callVi (npc := 81) (n := 1) (As := [.int 16]) (by decide) (by rfl) rfl gX8_days_X8_hoursGo rfl rfl rfl (by decide +kernel) ⟨Nat.le_of_ble_eq_true rfl, Nat.le_of_ble_eq_true rfl⟩ rfl rfl (Nat.le_of_ble_eq_true rfl) (mtX8_hoursGo E l  16 M10) dX8_days_78 rfl (fun r12 M11 _ => ?_)
      refine zz_istore_n (npc := 82) (lv1 := [(2, .int r12), (0, .ref (eA E 57)), (1, .int y1), (3, .int y3)]) rfl dX8_days_81 rfl (by decide) rfl ?_
      refine zz_iincB (npc := 85) (y3 + 1) (lv1 := fun v13 => [(3, .int v13), (2, .int r12), (0, .ref (eA E 57)), (1, .int y1)]) dX8_days_82 rfl 3 rfl rfl (by decide) (fun _ => rfl) (fun v13 => ?_)
      refine zz_goto (npc := 0) (tgt := 50) dX8_days_85 (by decide) ?_
      refine zz_sub (npc := 0) (lv1 := [(0, .ref (eA E 57)), (1, .int y1), (2, .int r12), (3, .int v13)]) [2, 3, 1, 0] rfl ?_
      exact ih y1 r12 v13 M11
noncomputable def fX8_days  (x1 : Int32) (M : Mem) : Option (Int32 × Mem) := (bd (fX8_within x1 1 20 M) fun r2 M1 => (if r2 = 0 then (bd (fX8_finding (-1000001) M1) fun r4 M3 => (some (r4, M3))) else (ck (inb 1 56) (if 90000 < (M1 58 (ix 1)) then (fX8_days_L39  M1) else (ck (inb 2 56) (if (M1 58 (ix 2)) ≤ 90000 then (fX8_days_L50  fu x1 0 0 M1) else (fX8_days_L39  M1)))))))
set_option maxHeartbeats 4000000 in
set_option maxRecDepth 100000 in
theorem mtX8_days (E : EV) (l : Launch)   (x1 : Int32) (M : Mem) : CT E l yX8_days wsX8_days rmX8_days vI [.ref (eA E 57), .int x1] (fX8_days x1 M) M := by
  refine ct_of (cc := cX8_days) (nL := 4) (ret := (some .int)) (by decide +kernel) rfl (Nat.le_of_ble_eq_true rfl) ?_
  show ZZ E l RX8 cX8_days 4 (some .int) wsX8_days rmX8_days vI (fX8_days x1 M) M [(0, .ref (eA E 57)), (1, .int x1)] 0 []
  unfold fX8_days
  refine zz_iload_n (npc := 1) 1 rfl rfl dX8_days_0 rfl ?_
  refine zz_iconst (npc := 2) 1 (by decide) dX8_days_1 rfl ?_
  refine zz_bipush (npc := 4) 20 (by decide) dX8_days_2 rfl ?_
  refine zz_callSi (npc := 7) (n := 3) (As := [.int x1, .int 1, .int 20]) gX8_days_X8_within rfl rfl rfl (by decide +kernel) ⟨Nat.le_of_ble_eq_true rfl, Nat.le_of_ble_eq_true rfl⟩ rfl rfl (Nat.le_of_ble_eq_true rfl) (mtX8_within E l  x1 1 20 M) dX8_days_4 rfl (fun r2 M1 _ => ?_)
  refine zz_if_ne (tgt := 17) (npc := 10) dX8_days_7 (by decide) rfl ?_ ?_
  · refine zz_aload_n (npc := 18) 0 rfl rfl dX8_days_17 rfl ?_
    refine zz_getR (npc := 21) (i := 0) (C0 := RX8) (T := TX8) (N := 29) (by decide) (by rfl) rfl (by decide) iX8_days_8 (List.mem_of_getElem? (i := 2) rfl) rfl dX8_days_18 rfl ?_
    refine zz_iconst (npc := 22) 1 (by decide) dX8_days_21 rfl ?_
    refine zz_iald (npc := 23) (by decide) (by rfl) dX8_days_22 rfl ?_
    refine zz_ldc (npc := 25) 90000 (List.mem_of_getElem? (i := 3) rfl) dX8_days_23 rfl ?_
    refine zz_icmp_gt (tgt := 39) (npc := 28) dX8_days_25 (by decide) rfl ?_ ?_
    · refine zz_sub (npc := 0) (lv1 := [(0, .ref (eA E 57))]) [0] rfl ?_
      exact zX8_days_L39 E l  M1
    · refine zz_aload_n (npc := 29) 0 rfl rfl dX8_days_28 rfl ?_
      refine zz_getR (npc := 32) (i := 0) (C0 := RX8) (T := TX8) (N := 29) (by decide) (by rfl) rfl (by decide) iX8_days_8 (List.mem_of_getElem? (i := 2) rfl) rfl dX8_days_29 rfl ?_
      refine zz_iconst (npc := 33) 2 (by decide) dX8_days_32 rfl ?_
      refine zz_iald (npc := 34) (by decide) (by rfl) dX8_days_33 rfl ?_
      refine zz_ldc (npc := 36) 90000 (List.mem_of_getElem? (i := 3) rfl) dX8_days_34 rfl ?_
      refine zz_icmp_le (tgt := 46) (npc := 39) dX8_days_36 (by decide) rfl ?_ ?_
      · refine zz_iconst (npc := 47) 0 (by decide) dX8_days_46 rfl ?_
        refine zz_istore_n (npc := 48) (lv1 := [(2, .int 0), (0, .ref (eA E 57)), (1, .int x1)]) rfl dX8_days_47 rfl (by decide) rfl ?_
        refine zz_iconst (npc := 49) 0 (by decide) dX8_days_48 rfl ?_
        refine zz_istore_n (npc := 50) (lv1 := [(3, .int 0), (2, .int 0), (0, .ref (eA E 57)), (1, .int x1)]) rfl dX8_days_49 rfl (by decide) rfl ?_
        refine zz_sub (npc := 0) (lv1 := [(0, .ref (eA E 57)), (1, .int x1), (2, .int 0), (3, .int 0)]) [2, 3, 1, 0] rfl ?_
        exact zX8_days_L50 E l  fu x1 0 0 M1
      · refine zz_sub (npc := 0) (lv1 := [(0, .ref (eA E 57))]) [0] rfl ?_
        exact zX8_days_L39 E l  M1
  · refine zz_aload_n (npc := 11) 0 rfl rfl dX8_days_10 rfl ?_
    refine zz_ldc (npc := 13) (-1000001) (List.mem_of_getElem? (i := 1) rfl) dX8_days_11 rfl ?_
    refine zz_callVi (npc := 16) (n := 1) (As := [.int (-1000001)]) (by decide) (by rfl) rfl gX8_days_X8_finding rfl rfl rfl (by decide +kernel) ⟨Nat.le_of_ble_eq_true rfl, Nat.le_of_ble_eq_true rfl⟩ rfl rfl (Nat.le_of_ble_eq_true rfl) (mtX8_finding E l  (-1000001) M1) dX8_days_13 rfl (fun r4 M3 _ => ?_)
    exact zz_iret dX8_days_16
abbrev rmX8_seed : Room := { frames := 1, cells := 0, slots := 0, locals := 23 }
noncomputable def fX8_seed  (x1 : Int32) (M : Mem) : Option (Int32 × Mem) := (bd (fX8_become 5 x1 M) fun r2 M1 => (some (r2, M1)))
set_option maxHeartbeats 4000000 in
set_option maxRecDepth 100000 in
theorem mtX8_seed (E : EV) (l : Launch)   (x1 : Int32) (M : Mem) : CT E l yX8_seed wsX8_seed rmX8_seed vI [.ref (eA E 57), .int x1] (fX8_seed x1 M) M := by
  refine ct_of (cc := cX8_seed) (nL := 2) (ret := (some .int)) (by decide +kernel) rfl (Nat.le_of_ble_eq_true rfl) ?_
  show ZZ E l RX8 cX8_seed 2 (some .int) wsX8_seed rmX8_seed vI (fX8_seed x1 M) M [(0, .ref (eA E 57)), (1, .int x1)] 0 []
  unfold fX8_seed
  refine zz_aload_n (npc := 1) 0 rfl rfl dX8_seed_0 rfl ?_
  refine zz_iconst (npc := 2) 5 (by decide) dX8_seed_1 rfl ?_
  refine zz_iload_n (npc := 3) 1 rfl rfl dX8_seed_2 rfl ?_
  refine zz_callVi (npc := 6) (n := 2) (As := [.int 5, .int x1]) (by decide) (by rfl) rfl gX8_seed_X8_become rfl rfl rfl (by decide +kernel) ⟨Nat.le_of_ble_eq_true rfl, Nat.le_of_ble_eq_true rfl⟩ rfl rfl (Nat.le_of_ble_eq_true rfl) (mtX8_become E l  5 x1 M) dX8_seed_3 rfl (fun r2 M1 _ => ?_)
  exact zz_iret dX8_seed_6
abbrev rmX8_feed : Room := { frames := 1, cells := 0, slots := 0, locals := 22 }
theorem iX8_feed_8 : ∀ w ∈ u_ws RX8 TX8 29, w ∈ wsX8_feed := fun w h => List.mem_cons_of_mem _ (List.mem_append_right _ h)
noncomputable def fX8_feed_L38   : Nat → Int32 → Int32 → Mem → Option (Int32 × Mem)
  | 0, _, _, _ => none
  | n + 1, y1, y3, M => (if y3 < 0 then (some (M 57 15, M)) else (ck (inb (M 57 15) 120) (wm (wr M 66 (ix (M 57 15)) ((shr y1 (8 * y3)) &&& 255)) fun M8 => (wm (wr M8 57 15 ((M8 57 15) + 1)) fun M9 => (bv (y3 + (-1)) fun v10 => (fX8_feed_L38  n y1 v10 M9))))))
set_option maxHeartbeats 4000000 in
set_option maxRecDepth 100000 in
theorem zX8_feed_L38 (E : EV) (l : Launch)     : ∀ (n : Nat) (y1 : Int32) (y3 : Int32) (M : Mem), ZZ E l RX8 cX8_feed 4 (some .int) wsX8_feed rmX8_feed vI (fX8_feed_L38 n y1 y3 M) M [(0, .ref (eA E 57)), (1, .int y1), (3, .int y3)] 38 [] := by
  intro n
  induction n with
  | zero => intros; exact zz_none
  | succ n ih =>
    intro y1 y3 M
    rw [fX8_feed_L38]
    refine zz_iload_n (npc := 39) 2 rfl rfl dX8_feed_38 rfl ?_
    refine zz_if_lt (tgt := 77) (npc := 42) dX8_feed_39 (by decide) rfl ?_ ?_
    · refine zz_aload_n (npc := 78) 0 rfl rfl dX8_feed_77 rfl ?_
      refine zz_getI (npc := 81) (i := 15) (C0 := RX8) (T := TX8) (N := 29) (by decide) (by rfl) rfl (by decide) iX8_feed_8 (List.mem_of_getElem? (i := 2) rfl) rfl dX8_feed_78 rfl ?_
      exact zz_iret dX8_feed_81
    · refine zz_aload_n (npc := 43) 0 rfl rfl dX8_feed_42 rfl ?_
      refine zz_getR (npc := 46) (i := 14) (C0 := RX8) (T := TX8) (N := 29) (by decide) (by rfl) rfl (by decide) iX8_feed_8 (List.mem_of_getElem? (i := 4) rfl) rfl dX8_feed_43 rfl ?_
      refine zz_aload_n (npc := 47) 0 rfl rfl dX8_feed_46 rfl ?_
      refine zz_getI (npc := 50) (i := 15) (C0 := RX8) (T := TX8) (N := 29) (by decide) (by rfl) rfl (by decide) iX8_feed_8 (List.mem_of_getElem? (i := 2) rfl) rfl dX8_feed_47 rfl ?_
      refine zz_iload_n (npc := 51) 1 rfl rfl dX8_feed_50 rfl ?_
      refine zz_bipush (npc := 53) 8 (by decide) dX8_feed_51 rfl ?_
      refine zz_iload_n (npc := 54) 2 rfl rfl dX8_feed_53 rfl ?_
      refine zz_imul (npc := 55) dX8_feed_54 rfl ?_
      refine zz_ishr (npc := 56) dX8_feed_55 rfl ?_
      refine zz_sipush (npc := 59) 255 (by decide) dX8_feed_56 rfl ?_
      refine zz_iand (npc := 60) dX8_feed_59 rfl ?_
      refine zz_iast (npc := 61) (by decide) (by rfl) dX8_feed_60 rfl (fun M8 => ?_)
      refine zz_aload_n (npc := 62) 0 rfl rfl dX8_feed_61 rfl ?_
      refine zz_dup (npc := 63) rfl dX8_feed_62 rfl ?_
      refine zz_getI (npc := 66) (i := 15) (C0 := RX8) (T := TX8) (N := 29) (by decide) (by rfl) rfl (by decide) iX8_feed_8 (List.mem_of_getElem? (i := 2) rfl) rfl dX8_feed_63 rfl ?_
      refine zz_iconst (npc := 67) 1 (by decide) dX8_feed_66 rfl ?_
      refine zz_iadd (npc := 68) dX8_feed_67 rfl ?_
      refine zz_putI (npc := 71) (i := 15) (C0 := RX8) (T := TX8) (N := 29) (by decide) (by rfl) rfl (by decide) iX8_feed_8 (List.mem_of_getElem? (i := 2) rfl) tyX8_ok nmX8 rfl rfl rfl dX8_feed_68 rfl (fun M9 => ?_)
      refine zz_iincB (npc := 74) (y3 + (-1)) (lv1 := fun v10 => [(3, .int v10), (0, .ref (eA E 57)), (1, .int y1)]) dX8_feed_71 rfl 2 rfl rfl (by decide) (fun _ => rfl) (fun v10 => ?_)
      refine zz_goto (npc := 0) (tgt := 38) dX8_feed_74 (by decide) ?_
      refine zz_sub (npc := 0) (lv1 := [(0, .ref (eA E 57)), (1, .int y1), (3, .int v10)]) [1, 2, 0] rfl ?_
      exact ih y1 v10 M9
noncomputable def fX8_feed  (x1 : Int32) (x2 : Int32) (M : Mem) : Option (Int32 × Mem) := (bd (fX8_within x2 1 4 M) fun r2 M1 => (if r2 = 0 then (bd (fX8_finding (-1000001) M1) fun r7 M6 => (some (r7, M6))) else (if ((M1 57 15) + x2) ≤ 120 then (bv (x2 - 1) fun v3 => (fX8_feed_L38  fu x1 v3 M1)) else (bd (fX8_finding (-1000002) M1) fun r5 M4 => (some (r5, M4))))))
set_option maxHeartbeats 4000000 in
set_option maxRecDepth 100000 in
theorem mtX8_feed (E : EV) (l : Launch)   (x1 : Int32) (x2 : Int32) (M : Mem) : CT E l yX8_feed wsX8_feed rmX8_feed vI [.ref (eA E 57), .int x1, .int x2] (fX8_feed x1 x2 M) M := by
  refine ct_of (cc := cX8_feed) (nL := 4) (ret := (some .int)) (by decide +kernel) rfl (Nat.le_of_ble_eq_true rfl) ?_
  show ZZ E l RX8 cX8_feed 4 (some .int) wsX8_feed rmX8_feed vI (fX8_feed x1 x2 M) M [(0, .ref (eA E 57)), (1, .int x1), (2, .int x2)] 0 []
  unfold fX8_feed
  refine zz_iload_n (npc := 1) 2 rfl rfl dX8_feed_0 rfl ?_
  refine zz_iconst (npc := 2) 1 (by decide) dX8_feed_1 rfl ?_
  refine zz_iconst (npc := 3) 4 (by decide) dX8_feed_2 rfl ?_
  refine zz_callSi (npc := 6) (n := 3) (As := [.int x2, .int 1, .int 4]) gX8_feed_X8_within rfl rfl rfl (by decide +kernel) ⟨Nat.le_of_ble_eq_true rfl, Nat.le_of_ble_eq_true rfl⟩ rfl rfl (Nat.le_of_ble_eq_true rfl) (mtX8_within E l  x2 1 4 M) dX8_feed_3 rfl (fun r2 M1 _ => ?_)
  refine zz_if_ne (tgt := 16) (npc := 9) dX8_feed_6 (by decide) rfl ?_ ?_
  · refine zz_aload_n (npc := 17) 0 rfl rfl dX8_feed_16 rfl ?_
    refine zz_getI (npc := 20) (i := 15) (C0 := RX8) (T := TX8) (N := 29) (by decide) (by rfl) rfl (by decide) iX8_feed_8 (List.mem_of_getElem? (i := 2) rfl) rfl dX8_feed_17 rfl ?_
    refine zz_iload_n (npc := 21) 2 rfl rfl dX8_feed_20 rfl ?_
    refine zz_iadd (npc := 22) dX8_feed_21 rfl ?_
    refine zz_bipush (npc := 24) 120 (by decide) dX8_feed_22 rfl ?_
    refine zz_icmp_le (tgt := 34) (npc := 27) dX8_feed_24 (by decide) rfl ?_ ?_
    · refine zz_iload_n (npc := 35) 2 rfl rfl dX8_feed_34 rfl ?_
      refine zz_iconst (npc := 36) 1 (by decide) dX8_feed_35 rfl ?_
      refine zz_isub (npc := 37) dX8_feed_36 rfl ?_
      refine zz_istore_nB (npc := 38) (lv1 := fun v3 => [(3, .int v3), (0, .ref (eA E 57)), (1, .int x1), (2, .int x2)]) rfl dX8_feed_37 rfl (by decide) (fun _ => rfl) (fun v3 => ?_)
      refine zz_sub (npc := 0) (lv1 := [(0, .ref (eA E 57)), (1, .int x1), (3, .int v3)]) [1, 2, 0] rfl ?_
      exact zX8_feed_L38 E l  fu x1 v3 M1
    · refine zz_aload_n (npc := 28) 0 rfl rfl dX8_feed_27 rfl ?_
      refine zz_ldc (npc := 30) (-1000002) (List.mem_of_getElem? (i := 3) rfl) dX8_feed_28 rfl ?_
      refine zz_callVi (npc := 33) (n := 1) (As := [.int (-1000002)]) (by decide) (by rfl) rfl gX8_feed_X8_finding rfl rfl rfl (by decide +kernel) ⟨Nat.le_of_ble_eq_true rfl, Nat.le_of_ble_eq_true rfl⟩ rfl rfl (Nat.le_of_ble_eq_true rfl) (mtX8_finding E l  (-1000002) M1) dX8_feed_30 rfl (fun r5 M4 _ => ?_)
      exact zz_iret dX8_feed_33
  · refine zz_aload_n (npc := 10) 0 rfl rfl dX8_feed_9 rfl ?_
    refine zz_ldc (npc := 12) (-1000001) (List.mem_of_getElem? (i := 1) rfl) dX8_feed_10 rfl ?_
    refine zz_callVi (npc := 15) (n := 1) (As := [.int (-1000001)]) (by decide) (by rfl) rfl gX8_feed_X8_finding rfl rfl rfl (by decide +kernel) ⟨Nat.le_of_ble_eq_true rfl, Nat.le_of_ble_eq_true rfl⟩ rfl rfl (Nat.le_of_ble_eq_true rfl) (mtX8_finding E l  (-1000001) M1) dX8_feed_12 rfl (fun r7 M6 _ => ?_)
    exact zz_iret dX8_feed_15
abbrev rmX8_wipe : Room := { frames := 0, cells := 0, slots := 0, locals := 0 }
theorem iX8_wipe_8 : ∀ w ∈ u_ws RX8 TX8 29, w ∈ wsX8_wipe := fun w h => List.mem_cons_of_mem _ (List.mem_append_right _ h)
noncomputable def fX8_wipe   (M : Mem) : Option (Int32 × Mem) := (bv (M 57 15) fun v1 => (wm (wr M 57 15 0) fun M2 => (some (v1, M2))))
set_option maxHeartbeats 4000000 in
set_option maxRecDepth 100000 in
theorem mtX8_wipe (E : EV) (l : Launch)    (M : Mem) : CT E l yX8_wipe wsX8_wipe rmX8_wipe vI [.ref (eA E 57)] (fX8_wipe  M) M := by
  refine ct_of (cc := cX8_wipe) (nL := 2) (ret := (some .int)) (by decide +kernel) rfl (Nat.le_of_ble_eq_true rfl) ?_
  show ZZ E l RX8 cX8_wipe 2 (some .int) wsX8_wipe rmX8_wipe vI (fX8_wipe  M) M [(0, .ref (eA E 57))] 0 []
  unfold fX8_wipe
  refine zz_aload_n (npc := 1) 0 rfl rfl dX8_wipe_0 rfl ?_
  refine zz_getI (npc := 4) (i := 15) (C0 := RX8) (T := TX8) (N := 29) (by decide) (by rfl) rfl (by decide) iX8_wipe_8 (List.mem_of_getElem? (i := 1) rfl) rfl dX8_wipe_1 rfl ?_
  refine zz_istore_nB (npc := 5) (lv1 := fun v1 => [(1, .int v1), (0, .ref (eA E 57))]) rfl dX8_wipe_4 rfl (by decide) (fun _ => rfl) (fun v1 => ?_)
  refine zz_aload_n (npc := 6) 1 rfl rfl dX8_wipe_5 rfl ?_
  refine zz_iconst (npc := 7) 0 (by decide) dX8_wipe_6 rfl ?_
  refine zz_putI (npc := 10) (i := 15) (C0 := RX8) (T := TX8) (N := 29) (by decide) (by rfl) rfl (by decide) iX8_wipe_8 (List.mem_of_getElem? (i := 1) rfl) tyX8_ok nmX8 rfl rfl rfl dX8_wipe_7 rfl (fun M2 => ?_)
  refine zz_iload_n (npc := 11) 0 rfl rfl dX8_wipe_10 rfl ?_
  exact zz_iret dX8_wipe_11
abbrev rmX8_byteAt : Room := { frames := 0, cells := 0, slots := 0, locals := 0 }
theorem iX8_byteAt_8 : ∀ w ∈ u_ws RX8 TX8 29, w ∈ wsX8_byteAt := fun w h => List.mem_cons_of_mem _ (List.mem_append_right _ h)
noncomputable def fX8_byteAt  (x1 : Int32) (M : Mem) : Option (Int32 × Mem) := (if (M 57 15) ≤ x1 then (some ((-1), M)) else (ck (inb x1 120) (some (M 66 (ix x1), M))))
set_option maxHeartbeats 4000000 in
set_option maxRecDepth 100000 in
theorem mtX8_byteAt (E : EV) (l : Launch)   (x1 : Int32) (M : Mem) : CT E l yX8_byteAt wsX8_byteAt rmX8_byteAt vI [.ref (eA E 57), .int x1] (fX8_byteAt x1 M) M := by
  refine ct_of (cc := cX8_byteAt) (nL := 2) (ret := (some .int)) (by decide +kernel) rfl (Nat.le_of_ble_eq_true rfl) ?_
  show ZZ E l RX8 cX8_byteAt 2 (some .int) wsX8_byteAt rmX8_byteAt vI (fX8_byteAt x1 M) M [(0, .ref (eA E 57)), (1, .int x1)] 0 []
  unfold fX8_byteAt
  refine zz_iload_n (npc := 1) 1 rfl rfl dX8_byteAt_0 rfl ?_
  refine zz_aload_n (npc := 2) 0 rfl rfl dX8_byteAt_1 rfl ?_
  refine zz_getI (npc := 5) (i := 15) (C0 := RX8) (T := TX8) (N := 29) (by decide) (by rfl) rfl (by decide) iX8_byteAt_8 (List.mem_of_getElem? (i := 1) rfl) rfl dX8_byteAt_2 rfl ?_
  refine zz_icmp_ge (tgt := 17) (npc := 8) dX8_byteAt_5 (by decide) rfl ?_ ?_
  · refine zz_iconst (npc := 18) (-1) (by decide) dX8_byteAt_17 rfl ?_
    exact zz_iret dX8_byteAt_18
  · refine zz_aload_n (npc := 9) 0 rfl rfl dX8_byteAt_8 rfl ?_
    refine zz_getR (npc := 12) (i := 14) (C0 := RX8) (T := TX8) (N := 29) (by decide) (by rfl) rfl (by decide) iX8_byteAt_8 (List.mem_of_getElem? (i := 2) rfl) rfl dX8_byteAt_9 rfl ?_
    refine zz_iload_n (npc := 13) 1 rfl rfl dX8_byteAt_12 rfl ?_
    refine zz_iald (npc := 14) (by decide) (by rfl) dX8_byteAt_13 rfl ?_
    refine zz_goto (npc := 0) (tgt := 18) dX8_byteAt_14 (by decide) ?_
    exact zz_iret dX8_byteAt_18
abbrev rmX8_next : Room := { frames := 1, cells := 0, slots := 0, locals := 24 }
theorem iX8_next_8 : ∀ w ∈ u_ws RX8 TX8 29, w ∈ wsX8_next := fun w h => List.mem_cons_of_mem _ (List.mem_append_right _ h)
noncomputable def fX8_next_L84   : Nat → Mem → Option (Unit × Mem)
  | 0, _ => none
  | n + 1, M => (bd (fX8_byteAt (M 57 17) M) fun r27 M26 => (bd (fX8_within r27 97 122 M26) fun r29 M28 => (if r29 = 0 then (some ((), M28)) else (wm (wr M28 57 17 ((M28 57 17) + 1)) fun M30 => (fX8_next_L84  n M30)))))
set_option maxHeartbeats 4000000 in
set_option maxRecDepth 100000 in
theorem zX8_next_L84 (E : EV) (l : Launch)     : ∀ (n : Nat)  (M : Mem), ZZ E l RX8 cX8_next 2 none wsX8_next rmX8_next vV (fX8_next_L84 n M) M [(0, .ref (eA E 57))] 84 [] := by
  intro n
  induction n with
  | zero => intros; exact zz_none
  | succ n ih =>
    intro M
    rw [fX8_next_L84]
    refine zz_aload_n (npc := 85) 0 rfl rfl dX8_next_84 rfl ?_
    refine zz_aload_n (npc := 86) 0 rfl rfl dX8_next_85 rfl ?_
    refine zz_getI (npc := 89) (i := 17) (C0 := RX8) (T := TX8) (N := 29) (by decide) (by rfl) rfl (by decide) iX8_next_8 (List.mem_of_getElem? (i := 1) rfl) rfl dX8_next_86 rfl ?_
    refine zz_callVi (npc := 92) (n := 1) (As := [.int (M 57 17)]) (by decide) (by rfl) rfl gX8_next_X8_byteAt rfl rfl rfl (by decide +kernel) ⟨Nat.le_of_ble_eq_true rfl, Nat.le_of_ble_eq_true rfl⟩ rfl rfl (Nat.le_of_ble_eq_true rfl) (mtX8_byteAt E l  (M 57 17) M) dX8_next_89 rfl (fun r27 M26 _ => ?_)
    refine zz_bipush (npc := 94) 97 (by decide) dX8_next_92 rfl ?_
    refine zz_bipush (npc := 96) 122 (by decide) dX8_next_94 rfl ?_
    refine zz_callSi (npc := 99) (n := 3) (As := [.int r27, .int 97, .int 122]) gX8_next_X8_within rfl rfl rfl (by decide +kernel) ⟨Nat.le_of_ble_eq_true rfl, Nat.le_of_ble_eq_true rfl⟩ rfl rfl (Nat.le_of_ble_eq_true rfl) (mtX8_within E l  r27 97 122 M26) dX8_next_96 rfl (fun r29 M28 _ => ?_)
    refine zz_if_eq (tgt := 206) (npc := 102) dX8_next_99 (by decide) rfl ?_ ?_
    · exact zz_vret dX8_next_206
    · refine zz_aload_n (npc := 103) 0 rfl rfl dX8_next_102 rfl ?_
      refine zz_dup (npc := 104) rfl dX8_next_103 rfl ?_
      refine zz_getI (npc := 107) (i := 17) (C0 := RX8) (T := TX8) (N := 29) (by decide) (by rfl) rfl (by decide) iX8_next_8 (List.mem_of_getElem? (i := 1) rfl) rfl dX8_next_104 rfl ?_
      refine zz_iconst (npc := 108) 1 (by decide) dX8_next_107 rfl ?_
      refine zz_iadd (npc := 109) dX8_next_108 rfl ?_
      refine zz_putI (npc := 112) (i := 17) (C0 := RX8) (T := TX8) (N := 29) (by decide) (by rfl) rfl (by decide) iX8_next_8 (List.mem_of_getElem? (i := 1) rfl) tyX8_ok nmX8 rfl rfl rfl dX8_next_109 rfl (fun M30 => ?_)
      refine zz_goto (npc := 0) (tgt := 84) dX8_next_112 (by decide) ?_
      exact ih M30
noncomputable def fX8_next_L131   : Nat → Mem → Option (Unit × Mem)
  | 0, _ => none
  | n + 1, M => (bd (fX8_byteAt (M 57 17) M) fun r19 M18 => (bd (fX8_within r19 48 57 M18) fun r21 M20 => (if r21 = 0 then (some ((), M20)) else (bd (fX8_byteAt (M20 57 17) M20) fun r23 M22 => (wm (wr M22 57 19 (imin 100000 (((10 * (M20 57 19)) + r23) - 48))) fun M24 => (wm (wr M24 57 17 ((M24 57 17) + 1)) fun M25 => (fX8_next_L131  n M25)))))))
set_option maxHeartbeats 4000000 in
set_option maxRecDepth 100000 in
theorem zX8_next_L131 (E : EV) (l : Launch)     : ∀ (n : Nat)  (M : Mem), ZZ E l RX8 cX8_next 2 none wsX8_next rmX8_next vV (fX8_next_L131 n M) M [(0, .ref (eA E 57))] 131 [] := by
  intro n
  induction n with
  | zero => intros; exact zz_none
  | succ n ih =>
    intro M
    rw [fX8_next_L131]
    refine zz_aload_n (npc := 132) 0 rfl rfl dX8_next_131 rfl ?_
    refine zz_aload_n (npc := 133) 0 rfl rfl dX8_next_132 rfl ?_
    refine zz_getI (npc := 136) (i := 17) (C0 := RX8) (T := TX8) (N := 29) (by decide) (by rfl) rfl (by decide) iX8_next_8 (List.mem_of_getElem? (i := 1) rfl) rfl dX8_next_133 rfl ?_
    refine zz_callVi (npc := 139) (n := 1) (As := [.int (M 57 17)]) (by decide) (by rfl) rfl gX8_next_X8_byteAt rfl rfl rfl (by decide +kernel) ⟨Nat.le_of_ble_eq_true rfl, Nat.le_of_ble_eq_true rfl⟩ rfl rfl (Nat.le_of_ble_eq_true rfl) (mtX8_byteAt E l  (M 57 17) M) dX8_next_136 rfl (fun r19 M18 _ => ?_)
    refine zz_bipush (npc := 141) 48 (by decide) dX8_next_139 rfl ?_
    refine zz_bipush (npc := 143) 57 (by decide) dX8_next_141 rfl ?_
    refine zz_callSi (npc := 146) (n := 3) (As := [.int r19, .int 48, .int 57]) gX8_next_X8_within rfl rfl rfl (by decide +kernel) ⟨Nat.le_of_ble_eq_true rfl, Nat.le_of_ble_eq_true rfl⟩ rfl rfl (Nat.le_of_ble_eq_true rfl) (mtX8_within E l  r19 48 57 M18) dX8_next_143 rfl (fun r21 M20 _ => ?_)
    refine zz_if_eq (tgt := 206) (npc := 149) dX8_next_146 (by decide) rfl ?_ ?_
    · exact zz_vret dX8_next_206
    · refine zz_aload_n (npc := 150) 0 rfl rfl dX8_next_149 rfl ?_
      refine zz_ldcw (npc := 153) 100000 (List.mem_of_getElem? (i := 5) rfl) dX8_next_150 rfl ?_
      refine zz_bipush (npc := 155) 10 (by decide) dX8_next_153 rfl ?_
      refine zz_aload_n (npc := 156) 0 rfl rfl dX8_next_155 rfl ?_
      refine zz_getI (npc := 159) (i := 19) (C0 := RX8) (T := TX8) (N := 29) (by decide) (by rfl) rfl (by decide) iX8_next_8 (List.mem_of_getElem? (i := 3) rfl) rfl dX8_next_156 rfl ?_
      refine zz_imul (npc := 160) dX8_next_159 rfl ?_
      refine zz_aload_n (npc := 161) 0 rfl rfl dX8_next_160 rfl ?_
      refine zz_aload_n (npc := 162) 0 rfl rfl dX8_next_161 rfl ?_
      refine zz_getI (npc := 165) (i := 17) (C0 := RX8) (T := TX8) (N := 29) (by decide) (by rfl) rfl (by decide) iX8_next_8 (List.mem_of_getElem? (i := 1) rfl) rfl dX8_next_162 rfl ?_
      refine zz_callVi (npc := 168) (n := 1) (As := [.int (M20 57 17)]) (by decide) (by rfl) rfl gX8_next_X8_byteAt rfl rfl rfl (by decide +kernel) ⟨Nat.le_of_ble_eq_true rfl, Nat.le_of_ble_eq_true rfl⟩ rfl rfl (Nat.le_of_ble_eq_true rfl) (mtX8_byteAt E l  (M20 57 17) M20) dX8_next_165 rfl (fun r23 M22 _ => ?_)
      refine zz_iadd (npc := 169) dX8_next_168 rfl ?_
      refine zz_bipush (npc := 171) 48 (by decide) dX8_next_169 rfl ?_
      refine zz_isub (npc := 172) dX8_next_171 rfl ?_
      refine zz_mmin (npc := 175) (List.mem_of_getElem? (i := 6) rfl) (List.mem_of_getElem? (i := 7) rfl) (List.mem_of_getElem? (i := 8) rfl) (List.mem_of_getElem? (i := 9) rfl) (Nat.le_of_ble_eq_true rfl) (Nat.le_of_ble_eq_true rfl) dX8_next_172 rfl ?_
      refine zz_putI (npc := 178) (i := 19) (C0 := RX8) (T := TX8) (N := 29) (by decide) (by rfl) rfl (by decide) iX8_next_8 (List.mem_of_getElem? (i := 3) rfl) tyX8_ok nmX8 rfl rfl rfl dX8_next_175 rfl (fun M24 => ?_)
      refine zz_aload_n (npc := 179) 0 rfl rfl dX8_next_178 rfl ?_
      refine zz_dup (npc := 180) rfl dX8_next_179 rfl ?_
      refine zz_getI (npc := 183) (i := 17) (C0 := RX8) (T := TX8) (N := 29) (by decide) (by rfl) rfl (by decide) iX8_next_8 (List.mem_of_getElem? (i := 1) rfl) rfl dX8_next_180 rfl ?_
      refine zz_iconst (npc := 184) 1 (by decide) dX8_next_183 rfl ?_
      refine zz_iadd (npc := 185) dX8_next_184 rfl ?_
      refine zz_putI (npc := 188) (i := 17) (C0 := RX8) (T := TX8) (N := 29) (by decide) (by rfl) rfl (by decide) iX8_next_8 (List.mem_of_getElem? (i := 1) rfl) tyX8_ok nmX8 rfl rfl rfl dX8_next_185 rfl (fun M25 => ?_)
      refine zz_goto (npc := 0) (tgt := 131) dX8_next_188 (by decide) ?_
      exact ih M25
noncomputable def fX8_next_L8   : Nat → Mem → Option (Unit × Mem)
  | 0, _ => none
  | n + 1, M => (bd (fX8_byteAt (M 57 16) M) fun r3 M2 => (if r3 = 32 then (wm (wr M2 57 16 ((M2 57 16) + 1)) fun M17 => (fX8_next_L8  n M17)) else (bd (fX8_byteAt (M2 57 16) M2) fun r5 M4 => (wm (wr M4 57 17 (M4 57 16)) fun M6 => (wm (wr M6 57 19 0) fun M7 => (if 0 ≤ r5 then (bd (fX8_within r5 97 122 M7) fun r9 M8 => (if r9 = 0 then (bd (fX8_within r5 48 57 M8) fun r11 M10 => (if r11 = 0 then (wm (wr M10 57 18 3) fun M12 => (wm (wr M12 57 17 ((M12 57 17) + 1)) fun M13 => (some ((), M13)))) else (wm (wr M10 57 18 2) fun M14 => (fX8_next_L131  fu M14)))) else (wm (wr M8 57 18 1) fun M15 => (fX8_next_L84  fu M15)))) else (wm (wr M7 57 18 0) fun M16 => (some ((), M16)))))))))
set_option maxHeartbeats 4000000 in
set_option maxRecDepth 100000 in
theorem zX8_next_L8 (E : EV) (l : Launch)     : ∀ (n : Nat)  (M : Mem), ZZ E l RX8 cX8_next 2 none wsX8_next rmX8_next vV (fX8_next_L8 n M) M [(0, .ref (eA E 57))] 8 [] := by
  intro n
  induction n with
  | zero => intros; exact zz_none
  | succ n ih =>
    intro M
    rw [fX8_next_L8]
    refine zz_aload_n (npc := 9) 0 rfl rfl dX8_next_8 rfl ?_
    refine zz_aload_n (npc := 10) 0 rfl rfl dX8_next_9 rfl ?_
    refine zz_getI (npc := 13) (i := 16) (C0 := RX8) (T := TX8) (N := 29) (by decide) (by rfl) rfl (by decide) iX8_next_8 (List.mem_of_getElem? (i := 2) rfl) rfl dX8_next_10 rfl ?_
    refine zz_callVi (npc := 16) (n := 1) (As := [.int (M 57 16)]) (by decide) (by rfl) rfl gX8_next_X8_byteAt rfl rfl rfl (by decide +kernel) ⟨Nat.le_of_ble_eq_true rfl, Nat.le_of_ble_eq_true rfl⟩ rfl rfl (Nat.le_of_ble_eq_true rfl) (mtX8_byteAt E l  (M 57 16) M) dX8_next_13 rfl (fun r3 M2 _ => ?_)
    refine zz_bipush (npc := 18) 32 (by decide) dX8_next_16 rfl ?_
    refine zz_icmp_ne (tgt := 34) (npc := 21) dX8_next_18 (by decide) rfl ?_ ?_
    · refine zz_aload_n (npc := 35) 0 rfl rfl dX8_next_34 rfl ?_
      refine zz_aload_n (npc := 36) 0 rfl rfl dX8_next_35 rfl ?_
      refine zz_getI (npc := 39) (i := 16) (C0 := RX8) (T := TX8) (N := 29) (by decide) (by rfl) rfl (by decide) iX8_next_8 (List.mem_of_getElem? (i := 2) rfl) rfl dX8_next_36 rfl ?_
      refine zz_callVi (npc := 42) (n := 1) (As := [.int (M2 57 16)]) (by decide) (by rfl) rfl gX8_next_X8_byteAt rfl rfl rfl (by decide +kernel) ⟨Nat.le_of_ble_eq_true rfl, Nat.le_of_ble_eq_true rfl⟩ rfl rfl (Nat.le_of_ble_eq_true rfl) (mtX8_byteAt E l  (M2 57 16) M2) dX8_next_39 rfl (fun r5 M4 _ => ?_)
      refine zz_istore_n (npc := 43) (lv1 := [(1, .int r5), (0, .ref (eA E 57))]) rfl dX8_next_42 rfl (by decide) rfl ?_
      refine zz_aload_n (npc := 44) 1 rfl rfl dX8_next_43 rfl ?_
      refine zz_aload_n (npc := 45) 1 rfl rfl dX8_next_44 rfl ?_
      refine zz_getI (npc := 48) (i := 16) (C0 := RX8) (T := TX8) (N := 29) (by decide) (by rfl) rfl (by decide) iX8_next_8 (List.mem_of_getElem? (i := 2) rfl) rfl dX8_next_45 rfl ?_
      refine zz_putI (npc := 51) (i := 17) (C0 := RX8) (T := TX8) (N := 29) (by decide) (by rfl) rfl (by decide) iX8_next_8 (List.mem_of_getElem? (i := 1) rfl) tyX8_ok nmX8 rfl rfl rfl dX8_next_48 rfl (fun M6 => ?_)
      refine zz_aload_n (npc := 52) 1 rfl rfl dX8_next_51 rfl ?_
      refine zz_iconst (npc := 53) 0 (by decide) dX8_next_52 rfl ?_
      refine zz_putI (npc := 56) (i := 19) (C0 := RX8) (T := TX8) (N := 29) (by decide) (by rfl) rfl (by decide) iX8_next_8 (List.mem_of_getElem? (i := 3) rfl) tyX8_ok nmX8 rfl rfl rfl dX8_next_53 rfl (fun M7 => ?_)
      refine zz_iload_n (npc := 57) 0 rfl rfl dX8_next_56 rfl ?_
      refine zz_if_ge (tgt := 68) (npc := 60) dX8_next_57 (by decide) rfl ?_ ?_
      · refine zz_iload_n (npc := 69) 0 rfl rfl dX8_next_68 rfl ?_
        refine zz_bipush (npc := 71) 97 (by decide) dX8_next_69 rfl ?_
        refine zz_bipush (npc := 73) 122 (by decide) dX8_next_71 rfl ?_
        refine zz_callSi (npc := 76) (n := 3) (As := [.int r5, .int 97, .int 122]) gX8_next_X8_within rfl rfl rfl (by decide +kernel) ⟨Nat.le_of_ble_eq_true rfl, Nat.le_of_ble_eq_true rfl⟩ rfl rfl (Nat.le_of_ble_eq_true rfl) (mtX8_within E l  r5 97 122 M7) dX8_next_73 rfl (fun r9 M8 _ => ?_)
        refine zz_if_eq (tgt := 115) (npc := 79) dX8_next_76 (by decide) rfl ?_ ?_
        · refine zz_iload_n (npc := 116) 0 rfl rfl dX8_next_115 rfl ?_
          refine zz_bipush (npc := 118) 48 (by decide) dX8_next_116 rfl ?_
          refine zz_bipush (npc := 120) 57 (by decide) dX8_next_118 rfl ?_
          refine zz_callSi (npc := 123) (n := 3) (As := [.int r5, .int 48, .int 57]) gX8_next_X8_within rfl rfl rfl (by decide +kernel) ⟨Nat.le_of_ble_eq_true rfl, Nat.le_of_ble_eq_true rfl⟩ rfl rfl (Nat.le_of_ble_eq_true rfl) (mtX8_within E l  r5 48 57 M8) dX8_next_120 rfl (fun r11 M10 _ => ?_)
          refine zz_if_eq (tgt := 191) (npc := 126) dX8_next_123 (by decide) rfl ?_ ?_
          · refine zz_aload_n (npc := 192) 1 rfl rfl dX8_next_191 rfl ?_
            refine zz_iconst (npc := 193) 3 (by decide) dX8_next_192 rfl ?_
            refine zz_putI (npc := 196) (i := 18) (C0 := RX8) (T := TX8) (N := 29) (by decide) (by rfl) rfl (by decide) iX8_next_8 (List.mem_of_getElem? (i := 4) rfl) tyX8_ok nmX8 rfl rfl rfl dX8_next_193 rfl (fun M12 => ?_)
            refine zz_aload_n (npc := 197) 1 rfl rfl dX8_next_196 rfl ?_
            refine zz_dup (npc := 198) rfl dX8_next_197 rfl ?_
            refine zz_getI (npc := 201) (i := 17) (C0 := RX8) (T := TX8) (N := 29) (by decide) (by rfl) rfl (by decide) iX8_next_8 (List.mem_of_getElem? (i := 1) rfl) rfl dX8_next_198 rfl ?_
            refine zz_iconst (npc := 202) 1 (by decide) dX8_next_201 rfl ?_
            refine zz_iadd (npc := 203) dX8_next_202 rfl ?_
            refine zz_putI (npc := 206) (i := 17) (C0 := RX8) (T := TX8) (N := 29) (by decide) (by rfl) rfl (by decide) iX8_next_8 (List.mem_of_getElem? (i := 1) rfl) tyX8_ok nmX8 rfl rfl rfl dX8_next_203 rfl (fun M13 => ?_)
            exact zz_vret dX8_next_206
          · refine zz_aload_n (npc := 127) 1 rfl rfl dX8_next_126 rfl ?_
            refine zz_iconst (npc := 128) 2 (by decide) dX8_next_127 rfl ?_
            refine zz_putI (npc := 131) (i := 18) (C0 := RX8) (T := TX8) (N := 29) (by decide) (by rfl) rfl (by decide) iX8_next_8 (List.mem_of_getElem? (i := 4) rfl) tyX8_ok nmX8 rfl rfl rfl dX8_next_128 rfl (fun M14 => ?_)
            refine zz_sub (npc := 0) (lv1 := [(0, .ref (eA E 57))]) [1] rfl ?_
            exact zX8_next_L131 E l  fu M14
        · refine zz_aload_n (npc := 80) 1 rfl rfl dX8_next_79 rfl ?_
          refine zz_iconst (npc := 81) 1 (by decide) dX8_next_80 rfl ?_
          refine zz_putI (npc := 84) (i := 18) (C0 := RX8) (T := TX8) (N := 29) (by decide) (by rfl) rfl (by decide) iX8_next_8 (List.mem_of_getElem? (i := 4) rfl) tyX8_ok nmX8 rfl rfl rfl dX8_next_81 rfl (fun M15 => ?_)
          refine zz_sub (npc := 0) (lv1 := [(0, .ref (eA E 57))]) [1] rfl ?_
          exact zX8_next_L84 E l  fu M15
      · refine zz_aload_n (npc := 61) 1 rfl rfl dX8_next_60 rfl ?_
        refine zz_iconst (npc := 62) 0 (by decide) dX8_next_61 rfl ?_
        refine zz_putI (npc := 65) (i := 18) (C0 := RX8) (T := TX8) (N := 29) (by decide) (by rfl) rfl (by decide) iX8_next_8 (List.mem_of_getElem? (i := 4) rfl) tyX8_ok nmX8 rfl rfl rfl dX8_next_62 rfl (fun M16 => ?_)
        refine zz_goto (npc := 0) (tgt := 206) dX8_next_65 (by decide) ?_
        exact zz_vret dX8_next_206
    · refine zz_aload_n (npc := 22) 0 rfl rfl dX8_next_21 rfl ?_
      refine zz_dup (npc := 23) rfl dX8_next_22 rfl ?_
      refine zz_getI (npc := 26) (i := 16) (C0 := RX8) (T := TX8) (N := 29) (by decide) (by rfl) rfl (by decide) iX8_next_8 (List.mem_of_getElem? (i := 2) rfl) rfl dX8_next_23 rfl ?_
      refine zz_iconst (npc := 27) 1 (by decide) dX8_next_26 rfl ?_
      refine zz_iadd (npc := 28) dX8_next_27 rfl ?_
      refine zz_putI (npc := 31) (i := 16) (C0 := RX8) (T := TX8) (N := 29) (by decide) (by rfl) rfl (by decide) iX8_next_8 (List.mem_of_getElem? (i := 2) rfl) tyX8_ok nmX8 rfl rfl rfl dX8_next_28 rfl (fun M17 => ?_)
      refine zz_goto (npc := 0) (tgt := 8) dX8_next_31 (by decide) ?_
      exact ih M17
noncomputable def fX8_next   (M : Mem) : Option (Unit × Mem) := (wm (wr M 57 16 (M 57 17)) fun M1 => (fX8_next_L8  fu M1))
set_option maxHeartbeats 4000000 in
set_option maxRecDepth 100000 in
theorem mtX8_next (E : EV) (l : Launch)    (M : Mem) : CT E l yX8_next wsX8_next rmX8_next vV [.ref (eA E 57)] (fX8_next  M) M := by
  refine ct_of (cc := cX8_next) (nL := 2) (ret := none) (by decide +kernel) rfl (Nat.le_of_ble_eq_true rfl) ?_
  show ZZ E l RX8 cX8_next 2 none wsX8_next rmX8_next vV (fX8_next  M) M [(0, .ref (eA E 57))] 0 []
  unfold fX8_next
  refine zz_aload_n (npc := 1) 0 rfl rfl dX8_next_0 rfl ?_
  refine zz_aload_n (npc := 2) 0 rfl rfl dX8_next_1 rfl ?_
  refine zz_getI (npc := 5) (i := 17) (C0 := RX8) (T := TX8) (N := 29) (by decide) (by rfl) rfl (by decide) iX8_next_8 (List.mem_of_getElem? (i := 1) rfl) rfl dX8_next_2 rfl ?_
  refine zz_putI (npc := 8) (i := 16) (C0 := RX8) (T := TX8) (N := 29) (by decide) (by rfl) rfl (by decide) iX8_next_8 (List.mem_of_getElem? (i := 2) rfl) tyX8_ok nmX8 rfl rfl rfl dX8_next_5 rfl (fun M1 => ?_)
  exact zX8_next_L8 E l  fu M1

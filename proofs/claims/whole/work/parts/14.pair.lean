abbrev rmX2_value : Room := { frames := 1, cells := 0, slots := 0, locals := 21 }
theorem iX2_value_2 : ∀ w ∈ u_ws RX2 TX2 3, w ∈ wsX2_value := fun w h => List.mem_cons_of_mem _ (List.mem_append_right _ h)
noncomputable def fX2_value  (x1 : Int32) (x2 : Int32) (x3 : Int32) (M : Mem) : Option (Unit × Mem) := (bd (fX7_isWithin x1 7 M) fun r2 M1 => (if r2 = 0 then (some ((), M1)) else (bd (fX7_isWithin x2 7 M1) fun r4 M3 => (if r4 = 0 then (some ((), M3)) else (ck (inb ((x1 * 8) + x2) 64) (wm (wr M3 30 (ix ((x1 * 8) + x2)) x3) fun M5 => (some ((), M5))))))))
set_option maxHeartbeats 4000000 in
set_option maxRecDepth 100000 in
theorem mtX2_value (E : EV) (l : Launch)   (x1 : Int32) (x2 : Int32) (x3 : Int32) (M : Mem) : CT E l yX2_value wsX2_value rmX2_value vV [.ref (eA E 29), .int x1, .int x2, .int x3] (fX2_value x1 x2 x3 M) M := by
  refine ct_of (cc := cX2_value) (nL := 4) (ret := none) (by decide +kernel) rfl (Nat.le_of_ble_eq_true rfl) ?_
  show ZZ E l RX2 cX2_value 4 none wsX2_value rmX2_value vV (fX2_value x1 x2 x3 M) M [(0, .ref (eA E 29)), (1, .int x1), (2, .int x2), (3, .int x3)] 0 []
  unfold fX2_value
  refine zz_iload_n (npc := 1) 1 rfl rfl dX2_value_0 rfl ?_
  refine zz_bipush (npc := 3) 7 (by decide) dX2_value_1 rfl ?_
  refine zz_callNi (npc := 6) (n := 2) (As := [.int x1, .int 7]) (host := "SharedShadow") gX2_value_X7_isWithin_n21 (List.mem_of_getElem? (i := 10) rfl) (List.mem_of_getElem? (i := 2) rfl) (List.mem_of_getElem? (i := 3) rfl) rfl rfl rfl (by decide +kernel) ⟨Nat.le_of_ble_eq_true rfl, Nat.le_of_ble_eq_true rfl⟩ rfl rfl (Nat.le_of_ble_eq_true rfl) (mtX7_isWithin E l  x1 7 M) dX2_value_3 rfl (fun r2 M1 _ => ?_)
  refine zz_if_eq (tgt := 30) (npc := 9) dX2_value_6 (by decide) rfl ?_ ?_
  · exact zz_vret dX2_value_30
  · refine zz_iload_n (npc := 10) 2 rfl rfl dX2_value_9 rfl ?_
    refine zz_bipush (npc := 12) 7 (by decide) dX2_value_10 rfl ?_
    refine zz_callNi (npc := 15) (n := 2) (As := [.int x2, .int 7]) (host := "SharedShadow") gX2_value_X7_isWithin_n21 (List.mem_of_getElem? (i := 10) rfl) (List.mem_of_getElem? (i := 2) rfl) (List.mem_of_getElem? (i := 3) rfl) rfl rfl rfl (by decide +kernel) ⟨Nat.le_of_ble_eq_true rfl, Nat.le_of_ble_eq_true rfl⟩ rfl rfl (Nat.le_of_ble_eq_true rfl) (mtX7_isWithin E l  x2 7 M1) dX2_value_12 rfl (fun r4 M3 _ => ?_)
    refine zz_if_eq (tgt := 30) (npc := 18) dX2_value_15 (by decide) rfl ?_ ?_
    · exact zz_vret dX2_value_30
    · refine zz_aload_n (npc := 19) 0 rfl rfl dX2_value_18 rfl ?_
      refine zz_getR (npc := 22) (i := 0) (C0 := RX2) (T := TX2) (N := 3) (by decide) (by rfl) rfl (by decide) iX2_value_2 (List.mem_of_getElem? (i := 1) rfl) rfl dX2_value_19 rfl ?_
      refine zz_iload_n (npc := 23) 1 rfl rfl dX2_value_22 rfl ?_
      refine zz_bipush (npc := 25) 8 (by decide) dX2_value_23 rfl ?_
      refine zz_imul (npc := 26) dX2_value_25 rfl ?_
      refine zz_iload_n (npc := 27) 2 rfl rfl dX2_value_26 rfl ?_
      refine zz_iadd (npc := 28) dX2_value_27 rfl ?_
      refine zz_iload_n (npc := 29) 3 rfl rfl dX2_value_28 rfl ?_
      refine zz_iast (npc := 30) (by decide) (by rfl) dX2_value_29 rfl (fun M5 => ?_)
      exact zz_vret dX2_value_30
abbrev rmX2_valueOf : Room := { frames := 1, cells := 0, slots := 0, locals := 24 }
theorem iX2_valueOf_2 : ∀ w ∈ u_ws RX2 TX2 3, w ∈ wsX2_valueOf := fun w h => List.mem_cons_of_mem _ (List.mem_append_right _ h)
noncomputable def fX2_valueOf  (x1 : Int32) (x2 : Int32) (M : Mem) : Option (Int32 × Mem) := (ck (inb (((imin x1 x2) * 8) + (imax x1 x2)) 64) (some (M 30 (ix (((imin x1 x2) * 8) + (imax x1 x2))), M)))
set_option maxHeartbeats 4000000 in
set_option maxRecDepth 100000 in
theorem mtX2_valueOf (E : EV) (l : Launch)   (x1 : Int32) (x2 : Int32) (M : Mem) : CT E l yX2_valueOf wsX2_valueOf rmX2_valueOf vI [.ref (eA E 29), .int x1, .int x2] (fX2_valueOf x1 x2 M) M := by
  refine ct_of (cc := cX2_valueOf) (nL := 3) (ret := (some .int)) (by decide +kernel) rfl (Nat.le_of_ble_eq_true rfl) ?_
  show ZZ E l RX2 cX2_valueOf 3 (some .int) wsX2_valueOf rmX2_valueOf vI (fX2_valueOf x1 x2 M) M [(0, .ref (eA E 29)), (1, .int x1), (2, .int x2)] 0 []
  unfold fX2_valueOf
  refine zz_aload_n (npc := 1) 0 rfl rfl dX2_valueOf_0 rfl ?_
  refine zz_getR (npc := 4) (i := 0) (C0 := RX2) (T := TX2) (N := 3) (by decide) (by rfl) rfl (by decide) iX2_valueOf_2 (List.mem_of_getElem? (i := 1) rfl) rfl dX2_valueOf_1 rfl ?_
  refine zz_iload_n (npc := 5) 1 rfl rfl dX2_valueOf_4 rfl ?_
  refine zz_iload_n (npc := 6) 2 rfl rfl dX2_valueOf_5 rfl ?_
  refine zz_mmin (npc := 9) (List.mem_of_getElem? (i := 2) rfl) (List.mem_of_getElem? (i := 3) rfl) (List.mem_of_getElem? (i := 4) rfl) (List.mem_of_getElem? (i := 5) rfl) (Nat.le_of_ble_eq_true rfl) (Nat.le_of_ble_eq_true rfl) dX2_valueOf_6 rfl ?_
  refine zz_bipush (npc := 11) 8 (by decide) dX2_valueOf_9 rfl ?_
  refine zz_imul (npc := 12) dX2_valueOf_11 rfl ?_
  refine zz_iload_n (npc := 13) 1 rfl rfl dX2_valueOf_12 rfl ?_
  refine zz_iload_n (npc := 14) 2 rfl rfl dX2_valueOf_13 rfl ?_
  refine zz_mmax (npc := 17) (List.mem_of_getElem? (i := 6) rfl) (List.mem_of_getElem? (i := 7) rfl) (List.mem_of_getElem? (i := 4) rfl) (List.mem_of_getElem? (i := 8) rfl) (Nat.le_of_ble_eq_true rfl) (Nat.le_of_ble_eq_true rfl) dX2_valueOf_14 rfl ?_
  refine zz_iadd (npc := 18) dX2_valueOf_17 rfl ?_
  refine zz_iald (npc := 19) (by decide) (by rfl) dX2_valueOf_18 rfl ?_
  exact zz_iret dX2_valueOf_19
abbrev rmX2_leastOf : Room := { frames := 1, cells := 0, slots := 0, locals := 21 }
noncomputable def fX2_leastOf_L2   : Nat → Int32 → Int32 → Mem → Option (Int32 × Mem)
  | 0, _, _, _ => none
  | n + 1, y0, y1, M => (if 7 ≤ y1 then (some (7, M)) else (bd (fX7_bit y0 y1 M) fun r2 M1 => (if r2 = 1 then (some (y1, M1)) else (bv (y1 + 1) fun v3 => (fX2_leastOf_L2  n y0 v3 M1)))))
set_option maxHeartbeats 4000000 in
set_option maxRecDepth 100000 in
theorem zX2_leastOf_L2 (E : EV) (l : Launch)     : ∀ (n : Nat) (y0 : Int32) (y1 : Int32) (M : Mem), ZZ E l RX2 cX2_leastOf 2 (some .int) wsX2_leastOf rmX2_leastOf vI (fX2_leastOf_L2 n y0 y1 M) M [(0, .int y0), (1, .int y1)] 2 [] := by
  intro n
  induction n with
  | zero => intros; exact zz_none
  | succ n ih =>
    intro y0 y1 M
    rw [fX2_leastOf_L2]
    refine zz_iload_n (npc := 3) 1 rfl rfl dX2_leastOf_2 rfl ?_
    refine zz_bipush (npc := 5) 7 (by decide) dX2_leastOf_3 rfl ?_
    refine zz_icmp_ge (tgt := 25) (npc := 8) dX2_leastOf_5 (by decide) rfl ?_ ?_
    · refine zz_bipush (npc := 27) 7 (by decide) dX2_leastOf_25 rfl ?_
      exact zz_iret dX2_leastOf_27
    · refine zz_iload_n (npc := 9) 0 rfl rfl dX2_leastOf_8 rfl ?_
      refine zz_iload_n (npc := 10) 1 rfl rfl dX2_leastOf_9 rfl ?_
      refine zz_callNi (npc := 13) (n := 2) (As := [.int y0, .int y1]) (host := "SharedShadow") gX2_leastOf_X7_bit_n49 (List.mem_of_getElem? (i := 11) rfl) (List.mem_of_getElem? (i := 1) rfl) (List.mem_of_getElem? (i := 2) rfl) rfl rfl rfl (by decide +kernel) ⟨Nat.le_of_ble_eq_true rfl, Nat.le_of_ble_eq_true rfl⟩ rfl rfl (Nat.le_of_ble_eq_true rfl) (mtX7_bit E l  y0 y1 M) dX2_leastOf_10 rfl (fun r2 M1 _ => ?_)
      refine zz_iconst (npc := 14) 1 (by decide) dX2_leastOf_13 rfl ?_
      refine zz_icmp_ne (tgt := 19) (npc := 17) dX2_leastOf_14 (by decide) rfl ?_ ?_
      · refine zz_iincB (npc := 22) (y1 + 1) (lv1 := fun v3 => [(1, .int v3), (0, .int y0)]) dX2_leastOf_19 rfl 1 rfl rfl (by decide) (fun _ => rfl) (fun v3 => ?_)
        refine zz_goto (npc := 0) (tgt := 2) dX2_leastOf_22 (by decide) ?_
        refine zz_sub (npc := 0) (lv1 := [(0, .int y0), (1, .int v3)]) [1, 0] rfl ?_
        exact ih y0 v3 M1
      · refine zz_iload_n (npc := 18) 1 rfl rfl dX2_leastOf_17 rfl ?_
        exact zz_iret dX2_leastOf_18
noncomputable def fX2_leastOf  (x1 : Int32) (M : Mem) : Option (Int32 × Mem) := (fX2_leastOf_L2  fu x1 0 M)
set_option maxHeartbeats 4000000 in
set_option maxRecDepth 100000 in
theorem mtX2_leastOf (E : EV) (l : Launch)   (x1 : Int32) (M : Mem) : CT E l yX2_leastOf wsX2_leastOf rmX2_leastOf vI [.int x1] (fX2_leastOf x1 M) M := by
  refine ct_of (cc := cX2_leastOf) (nL := 2) (ret := (some .int)) (by decide +kernel) rfl (Nat.le_of_ble_eq_true rfl) ?_
  show ZZ E l RX2 cX2_leastOf 2 (some .int) wsX2_leastOf rmX2_leastOf vI (fX2_leastOf x1 M) M [(0, .int x1)] 0 []
  unfold fX2_leastOf
  refine zz_iconst (npc := 1) 0 (by decide) dX2_leastOf_0 rfl ?_
  refine zz_istore_n (npc := 2) (lv1 := [(1, .int 0), (0, .int x1)]) rfl dX2_leastOf_1 rfl (by decide) rfl ?_
  refine zz_sub (npc := 0) (lv1 := [(0, .int x1), (1, .int 0)]) [1, 0] rfl ?_
  exact zX2_leastOf_L2 E l  fu x1 0 M
abbrev rmX2_without : Room := { frames := 0, cells := 0, slots := 0, locals := 0 }
noncomputable def fX2_without  (x1 : Int32) (x2 : Int32) (x3 : Int32) (M : Mem) : Option (Int32 × Mem) := (some ((x1 &&& ((shl 1 x2) ^^^ (-1))) &&& ((shl 1 x3) ^^^ (-1)), M))
set_option maxHeartbeats 4000000 in
set_option maxRecDepth 100000 in
theorem mtX2_without (E : EV) (l : Launch)   (x1 : Int32) (x2 : Int32) (x3 : Int32) (M : Mem) : CT E l yX2_without wsX2_without rmX2_without vI [.int x1, .int x2, .int x3] (fX2_without x1 x2 x3 M) M := by
  refine ct_of (cc := cX2_without) (nL := 3) (ret := (some .int)) (by decide +kernel) rfl (Nat.le_of_ble_eq_true rfl) ?_
  show ZZ E l RX2 cX2_without 3 (some .int) wsX2_without rmX2_without vI (fX2_without x1 x2 x3 M) M [(0, .int x1), (1, .int x2), (2, .int x3)] 0 []
  unfold fX2_without
  refine zz_iload_n (npc := 1) 0 rfl rfl dX2_without_0 rfl ?_
  refine zz_iconst (npc := 2) 1 (by decide) dX2_without_1 rfl ?_
  refine zz_iload_n (npc := 3) 1 rfl rfl dX2_without_2 rfl ?_
  refine zz_ishl (npc := 4) dX2_without_3 rfl ?_
  refine zz_iconst (npc := 5) (-1) (by decide) dX2_without_4 rfl ?_
  refine zz_ixor (npc := 6) dX2_without_5 rfl ?_
  refine zz_iand (npc := 7) dX2_without_6 rfl ?_
  refine zz_iconst (npc := 8) 1 (by decide) dX2_without_7 rfl ?_
  refine zz_iload_n (npc := 9) 2 rfl rfl dX2_without_8 rfl ?_
  refine zz_ishl (npc := 10) dX2_without_9 rfl ?_
  refine zz_iconst (npc := 11) (-1) (by decide) dX2_without_10 rfl ?_
  refine zz_ixor (npc := 12) dX2_without_11 rfl ?_
  refine zz_iand (npc := 13) dX2_without_12 rfl ?_
  exact zz_iret dX2_without_13
abbrev rmX2_worthWith : Room := { frames := 2, cells := 0, slots := 0, locals := 46 }
theorem iX2_worthWith_2 : ∀ w ∈ u_ws RX2 TX2 3, w ∈ wsX2_worthWith := fun w h => List.mem_cons_of_mem _ (List.mem_append_right _ h)
noncomputable def fX2_worthWith_L29   (y1 : Int32) (y2 : Int32) (y3 : Int32) (w0 : Int32) (M : Mem) : Option (Int32 × Mem) := (if w0 = 0 then (some ((-1), M)) else (bd (fX2_valueOf y2 y3 M) fun r6 M5 => (if r6 = (-1) then (some ((-1), M5)) else (bd (fX2_without y1 y2 y3 M5) fun r8 M7 => (ck (inb r8 256) (if (M7 31 (ix r8)) = (-1) then (some ((-1), M7)) else (bd (fX2_valueOf y2 y3 M7) fun r10 M9 => (bd (fX2_without y1 y2 y3 M9) fun r12 M11 => (ck (inb r12 256) (some (r10 + (M11 31 (ix r12)), M11)))))))))))
set_option maxHeartbeats 4000000 in
set_option maxRecDepth 100000 in
theorem zX2_worthWith_L29 (E : EV) (l : Launch)     : ∀ (y1 : Int32) (y2 : Int32) (y3 : Int32) (w0 : Int32) (M : Mem), ZZ E l RX2 cX2_worthWith 5 (some .int) wsX2_worthWith rmX2_worthWith vI (fX2_worthWith_L29 y1 y2 y3 w0 M) M [(0, .ref (eA E 29)), (1, .int y1), (2, .int y2), (3, .int y3)] 29 [.int w0] := by
  intro y1 y2 y3 w0 M
  unfold fX2_worthWith_L29
  refine zz_istore (npc := 31) (lv1 := [(4, .int w0), (0, .ref (eA E 29)), (1, .int y1), (2, .int y2), (3, .int y3)]) dX2_worthWith_29 rfl (by decide) rfl ?_
  refine zz_iload (npc := 33) 0 rfl dX2_worthWith_31 rfl ?_
  refine zz_if_eq (tgt := 61) (npc := 36) dX2_worthWith_33 (by decide) rfl ?_ ?_
  · refine zz_iconst (npc := 62) (-1) (by decide) dX2_worthWith_61 rfl ?_
    exact zz_iret dX2_worthWith_62
  · refine zz_aload_n (npc := 37) 1 rfl rfl dX2_worthWith_36 rfl ?_
    refine zz_iload_n (npc := 38) 3 rfl rfl dX2_worthWith_37 rfl ?_
    refine zz_iload_n (npc := 39) 4 rfl rfl dX2_worthWith_38 rfl ?_
    refine zz_callVi (npc := 42) (n := 2) (As := [.int y2, .int y3]) (by decide) (by rfl) rfl gX2_worthWith_X2_valueOf rfl rfl rfl (by decide +kernel) ⟨Nat.le_of_ble_eq_true rfl, Nat.le_of_ble_eq_true rfl⟩ rfl rfl (Nat.le_of_ble_eq_true rfl) (mtX2_valueOf E l  y2 y3 M) dX2_worthWith_39 rfl (fun r6 M5 _ => ?_)
    refine zz_iconst (npc := 43) (-1) (by decide) dX2_worthWith_42 rfl ?_
    refine zz_icmp_eq (tgt := 61) (npc := 46) dX2_worthWith_43 (by decide) rfl ?_ ?_
    · refine zz_iconst (npc := 62) (-1) (by decide) dX2_worthWith_61 rfl ?_
      exact zz_iret dX2_worthWith_62
    · refine zz_aload_n (npc := 47) 1 rfl rfl dX2_worthWith_46 rfl ?_
      refine zz_getR (npc := 50) (i := 1) (C0 := RX2) (T := TX2) (N := 3) (by decide) (by rfl) rfl (by decide) iX2_worthWith_2 (List.mem_of_getElem? (i := 1) rfl) rfl dX2_worthWith_47 rfl ?_
      refine zz_iload_n (npc := 51) 2 rfl rfl dX2_worthWith_50 rfl ?_
      refine zz_iload_n (npc := 52) 3 rfl rfl dX2_worthWith_51 rfl ?_
      refine zz_iload_n (npc := 53) 4 rfl rfl dX2_worthWith_52 rfl ?_
      refine zz_callSi (npc := 56) (n := 3) (As := [.int y1, .int y2, .int y3]) gX2_worthWith_X2_without rfl rfl rfl (by decide +kernel) ⟨Nat.le_of_ble_eq_true rfl, Nat.le_of_ble_eq_true rfl⟩ rfl rfl (Nat.le_of_ble_eq_true rfl) (mtX2_without E l  y1 y2 y3 M5) dX2_worthWith_53 rfl (fun r8 M7 _ => ?_)
      refine zz_iald (npc := 57) (by decide) (by rfl) dX2_worthWith_56 rfl ?_
      refine zz_iconst (npc := 58) (-1) (by decide) dX2_worthWith_57 rfl ?_
      refine zz_icmp_ne (tgt := 63) (npc := 61) dX2_worthWith_58 (by decide) rfl ?_ ?_
      · refine zz_aload_n (npc := 64) 1 rfl rfl dX2_worthWith_63 rfl ?_
        refine zz_iload_n (npc := 65) 3 rfl rfl dX2_worthWith_64 rfl ?_
        refine zz_iload_n (npc := 66) 4 rfl rfl dX2_worthWith_65 rfl ?_
        refine zz_callVi (npc := 69) (n := 2) (As := [.int y2, .int y3]) (by decide) (by rfl) rfl gX2_worthWith_X2_valueOf rfl rfl rfl (by decide +kernel) ⟨Nat.le_of_ble_eq_true rfl, Nat.le_of_ble_eq_true rfl⟩ rfl rfl (Nat.le_of_ble_eq_true rfl) (mtX2_valueOf E l  y2 y3 M7) dX2_worthWith_66 rfl (fun r10 M9 _ => ?_)
        refine zz_aload_n (npc := 70) 1 rfl rfl dX2_worthWith_69 rfl ?_
        refine zz_getR (npc := 73) (i := 1) (C0 := RX2) (T := TX2) (N := 3) (by decide) (by rfl) rfl (by decide) iX2_worthWith_2 (List.mem_of_getElem? (i := 1) rfl) rfl dX2_worthWith_70 rfl ?_
        refine zz_iload_n (npc := 74) 2 rfl rfl dX2_worthWith_73 rfl ?_
        refine zz_iload_n (npc := 75) 3 rfl rfl dX2_worthWith_74 rfl ?_
        refine zz_iload_n (npc := 76) 4 rfl rfl dX2_worthWith_75 rfl ?_
        refine zz_callSi (npc := 79) (n := 3) (As := [.int y1, .int y2, .int y3]) gX2_worthWith_X2_without rfl rfl rfl (by decide +kernel) ⟨Nat.le_of_ble_eq_true rfl, Nat.le_of_ble_eq_true rfl⟩ rfl rfl (Nat.le_of_ble_eq_true rfl) (mtX2_without E l  y1 y2 y3 M9) dX2_worthWith_76 rfl (fun r12 M11 _ => ?_)
        refine zz_iald (npc := 80) (by decide) (by rfl) dX2_worthWith_79 rfl ?_
        refine zz_iadd (npc := 81) dX2_worthWith_80 rfl ?_
        exact zz_iret dX2_worthWith_81
      · refine zz_iconst (npc := 62) (-1) (by decide) dX2_worthWith_61 rfl ?_
        exact zz_iret dX2_worthWith_62
noncomputable def fX2_worthWith_L28   (y1 : Int32) (y2 : Int32) (y3 : Int32) (M : Mem) : Option (Int32 × Mem) := (fX2_worthWith_L29  y1 y2 y3 0 M)
set_option maxHeartbeats 4000000 in
set_option maxRecDepth 100000 in
theorem zX2_worthWith_L28 (E : EV) (l : Launch)     : ∀ (y1 : Int32) (y2 : Int32) (y3 : Int32) (M : Mem), ZZ E l RX2 cX2_worthWith 5 (some .int) wsX2_worthWith rmX2_worthWith vI (fX2_worthWith_L28 y1 y2 y3 M) M [(0, .ref (eA E 29)), (1, .int y1), (2, .int y2), (3, .int y3)] 28 [] := by
  intro y1 y2 y3 M
  unfold fX2_worthWith_L28
  refine zz_iconst (npc := 29) 0 (by decide) dX2_worthWith_28 rfl ?_
  exact zX2_worthWith_L29 E l  y1 y2 y3 0 M
noncomputable def fX2_worthWith_L24   (y1 : Int32) (y2 : Int32) (y3 : Int32) (M : Mem) : Option (Int32 × Mem) := (fX2_worthWith_L29  y1 y2 y3 1 M)
set_option maxHeartbeats 4000000 in
set_option maxRecDepth 100000 in
theorem zX2_worthWith_L24 (E : EV) (l : Launch)     : ∀ (y1 : Int32) (y2 : Int32) (y3 : Int32) (M : Mem), ZZ E l RX2 cX2_worthWith 5 (some .int) wsX2_worthWith rmX2_worthWith vI (fX2_worthWith_L24 y1 y2 y3 M) M [(0, .ref (eA E 29)), (1, .int y1), (2, .int y2), (3, .int y3)] 24 [] := by
  intro y1 y2 y3 M
  unfold fX2_worthWith_L24
  refine zz_iconst (npc := 25) 1 (by decide) dX2_worthWith_24 rfl ?_
  refine zz_goto (npc := 0) (tgt := 29) dX2_worthWith_25 (by decide) ?_
  exact zX2_worthWith_L29 E l  y1 y2 y3 1 M
noncomputable def fX2_worthWith  (x1 : Int32) (x2 : Int32) (x3 : Int32) (M : Mem) : Option (Int32 × Mem) := (bd (fX7_bit x1 x3 M) fun r2 M1 => (if r2 = 1 then (if x2 = x3 then (bd (fJ6_bitCount_0f7a4 x1 M1) fun r4 M3 => (if (irm r4 2) = 1 then (fX2_worthWith_L24  x1 x2 x3 M3) else (fX2_worthWith_L28  x1 x2 x3 M3))) else (fX2_worthWith_L24  x1 x2 x3 M1)) else (fX2_worthWith_L28  x1 x2 x3 M1)))
set_option maxHeartbeats 4000000 in
set_option maxRecDepth 100000 in
theorem mtX2_worthWith (E : EV) (l : Launch)   (x1 : Int32) (x2 : Int32) (x3 : Int32) (M : Mem) : CT E l yX2_worthWith wsX2_worthWith rmX2_worthWith vI [.ref (eA E 29), .int x1, .int x2, .int x3] (fX2_worthWith x1 x2 x3 M) M := by
  refine ct_of (cc := cX2_worthWith) (nL := 5) (ret := (some .int)) (by decide +kernel) rfl (Nat.le_of_ble_eq_true rfl) ?_
  show ZZ E l RX2 cX2_worthWith 5 (some .int) wsX2_worthWith rmX2_worthWith vI (fX2_worthWith x1 x2 x3 M) M [(0, .ref (eA E 29)), (1, .int x1), (2, .int x2), (3, .int x3)] 0 []
  unfold fX2_worthWith
  refine zz_iload_n (npc := 1) 1 rfl rfl dX2_worthWith_0 rfl ?_
  refine zz_iload_n (npc := 2) 3 rfl rfl dX2_worthWith_1 rfl ?_
  refine zz_callNi (npc := 5) (n := 2) (As := [.int x1, .int x3]) (host := "SharedShadow") gX2_worthWith_X7_bit_n49 (List.mem_of_getElem? (i := 11) rfl) (List.mem_of_getElem? (i := 2) rfl) (List.mem_of_getElem? (i := 3) rfl) rfl rfl rfl (by decide +kernel) ⟨Nat.le_of_ble_eq_true rfl, Nat.le_of_ble_eq_true rfl⟩ rfl rfl (Nat.le_of_ble_eq_true rfl) (mtX7_bit E l  x1 x3 M) dX2_worthWith_2 rfl (fun r2 M1 _ => ?_)
  refine zz_iconst (npc := 6) 1 (by decide) dX2_worthWith_5 rfl ?_
  refine zz_icmp_ne (tgt := 28) (npc := 9) dX2_worthWith_6 (by decide) rfl ?_ ?_
  · exact zX2_worthWith_L28 E l  x1 x2 x3 M1
  · refine zz_iload_n (npc := 10) 2 rfl rfl dX2_worthWith_9 rfl ?_
    refine zz_iload_n (npc := 11) 3 rfl rfl dX2_worthWith_10 rfl ?_
    refine zz_icmp_ne (tgt := 24) (npc := 14) dX2_worthWith_11 (by decide) rfl ?_ ?_
    · exact zX2_worthWith_L24 E l  x1 x2 x3 M1
    · refine zz_iload_n (npc := 15) 1 rfl rfl dX2_worthWith_14 rfl ?_
      refine zz_callSi (npc := 18) (n := 1) (As := [.int x1]) gX2_worthWith_J6_bitCount_0f7a4 rfl rfl rfl (by decide +kernel) ⟨Nat.le_of_ble_eq_true rfl, Nat.le_of_ble_eq_true rfl⟩ rfl rfl (Nat.le_of_ble_eq_true rfl) (mtJ6_bitCount_0f7a4 E l  x1 M1) dX2_worthWith_15 rfl (fun r4 M3 _ => ?_)
      refine zz_iconst (npc := 19) 2 (by decide) dX2_worthWith_18 rfl ?_
      refine zz_irem (npc := 20) (by decide) dX2_worthWith_19 rfl ?_
      refine zz_iconst (npc := 21) 1 (by decide) dX2_worthWith_20 rfl ?_
      refine zz_icmp_ne (tgt := 28) (npc := 24) dX2_worthWith_21 (by decide) rfl ?_ ?_
      · exact zX2_worthWith_L28 E l  x1 x2 x3 M3
      · exact zX2_worthWith_L24 E l  x1 x2 x3 M3
abbrev rmX2_weighSet : Room := { frames := 3, cells := 0, slots := 0, locals := 70 }
theorem iX2_weighSet_2 : ∀ w ∈ u_ws RX2 TX2 3, w ∈ wsX2_weighSet := fun w h => List.mem_cons_of_mem _ (List.mem_append_right _ h)
noncomputable def fX2_weighSet_L99  (k21 : Int32 → Int32 → Int32 → Mem → Option (Unit × Mem)) (y1 : Int32) (y2 : Int32) (y3 : Int32) (M : Mem) : Option (Unit × Mem) := (bv (y3 + 1) fun v12 => (k21 y1 y2 v12 M))
set_option maxHeartbeats 4000000 in
set_option maxRecDepth 100000 in
theorem zX2_weighSet_L99 (E : EV) (l : Launch)   (k21 : Int32 → Int32 → Int32 → Mem → Option (Unit × Mem)) (hk21 : ∀ (y1_ : Int32) (y2_ : Int32) (y3_ : Int32) (M_ : Mem), ZZ E l RX2 cX2_weighSet 5 none wsX2_weighSet rmX2_weighSet vV (k21 y1_ y2_ y3_ M_) M_ [(0, .ref (eA E 29)), (1, .int y1_), (2, .int y2_), (3, .int y3_)] 21 []) : ∀ (y1 : Int32) (y2 : Int32) (y3 : Int32) (M : Mem), ZZ E l RX2 cX2_weighSet 5 none wsX2_weighSet rmX2_weighSet vV (fX2_weighSet_L99 k21 y1 y2 y3 M) M [(0, .ref (eA E 29)), (1, .int y1), (2, .int y2), (3, .int y3)] 99 [] := by
  intro y1 y2 y3 M
  unfold fX2_weighSet_L99
  refine zz_iincB (npc := 102) (y3 + 1) (lv1 := fun v12 => [(3, .int v12), (0, .ref (eA E 29)), (1, .int y1), (2, .int y2)]) dX2_weighSet_99 rfl 3 rfl rfl (by decide) (fun _ => rfl) (fun v12 => ?_)
  refine zz_goto (npc := 0) (tgt := 21) dX2_weighSet_102 (by decide) ?_
  refine zz_sub (npc := 0) (lv1 := [(0, .ref (eA E 29)), (1, .int y1), (2, .int y2), (3, .int v12)]) [1, 2, 3, 0] rfl ?_
  exact hk21 y1 y2 v12 M
noncomputable def fX2_weighSet_L62  (k21 : Int32 → Int32 → Int32 → Mem → Option (Unit × Mem)) (y1 : Int32) (y2 : Int32) (y3 : Int32) (y4 : Int32) (M : Mem) : Option (Unit × Mem) := (if y4 = (-1) then (fX2_weighSet_L99 k21 y1 y2 y3 M) else (ck (inb y1 256) (if y4 = (M 31 (ix y1)) then (ck (inb y1 256) (bd (fX2_without y1 y2 y3 M) fun r10 M9 => (ck (inb r10 256) (ck (inb y1 256) (wm (wr M9 32 (ix y1) ((M 32 (ix y1)) + (M9 32 (ix r10)))) fun M11 => (fX2_weighSet_L99 k21 y1 y2 y3 M11)))))) else (fX2_weighSet_L99 k21 y1 y2 y3 M))))
set_option maxHeartbeats 4000000 in
set_option maxRecDepth 100000 in
theorem zX2_weighSet_L62 (E : EV) (l : Launch)   (k21 : Int32 → Int32 → Int32 → Mem → Option (Unit × Mem)) (hk21 : ∀ (y1_ : Int32) (y2_ : Int32) (y3_ : Int32) (M_ : Mem), ZZ E l RX2 cX2_weighSet 5 none wsX2_weighSet rmX2_weighSet vV (k21 y1_ y2_ y3_ M_) M_ [(0, .ref (eA E 29)), (1, .int y1_), (2, .int y2_), (3, .int y3_)] 21 []) : ∀ (y1 : Int32) (y2 : Int32) (y3 : Int32) (y4 : Int32) (M : Mem), ZZ E l RX2 cX2_weighSet 5 none wsX2_weighSet rmX2_weighSet vV (fX2_weighSet_L62 k21 y1 y2 y3 y4 M) M [(0, .ref (eA E 29)), (1, .int y1), (2, .int y2), (3, .int y3), (4, .int y4)] 62 [] := by
  intro y1 y2 y3 y4 M
  unfold fX2_weighSet_L62
  refine zz_iload (npc := 64) 4 rfl dX2_weighSet_62 rfl ?_
  refine zz_iconst (npc := 65) (-1) (by decide) dX2_weighSet_64 rfl ?_
  refine zz_icmp_eq (tgt := 99) (npc := 68) dX2_weighSet_65 (by decide) rfl ?_ ?_
  · refine zz_sub (npc := 0) (lv1 := [(0, .ref (eA E 29)), (1, .int y1), (2, .int y2), (3, .int y3)]) [0, 1, 2, 3] rfl ?_
    exact zX2_weighSet_L99 E l k21 hk21 y1 y2 y3 M
  · refine zz_iload (npc := 70) 4 rfl dX2_weighSet_68 rfl ?_
    refine zz_aload_n (npc := 71) 0 rfl rfl dX2_weighSet_70 rfl ?_
    refine zz_getR (npc := 74) (i := 1) (C0 := RX2) (T := TX2) (N := 3) (by decide) (by rfl) rfl (by decide) iX2_weighSet_2 (List.mem_of_getElem? (i := 1) rfl) rfl dX2_weighSet_71 rfl ?_
    refine zz_iload_n (npc := 75) 1 rfl rfl dX2_weighSet_74 rfl ?_
    refine zz_iald (npc := 76) (by decide) (by rfl) dX2_weighSet_75 rfl ?_
    refine zz_icmp_ne (tgt := 99) (npc := 79) dX2_weighSet_76 (by decide) rfl ?_ ?_
    · refine zz_sub (npc := 0) (lv1 := [(0, .ref (eA E 29)), (1, .int y1), (2, .int y2), (3, .int y3)]) [0, 1, 2, 3] rfl ?_
      exact zX2_weighSet_L99 E l k21 hk21 y1 y2 y3 M
    · refine zz_aload_n (npc := 80) 0 rfl rfl dX2_weighSet_79 rfl ?_
      refine zz_getR (npc := 83) (i := 2) (C0 := RX2) (T := TX2) (N := 3) (by decide) (by rfl) rfl (by decide) iX2_weighSet_2 (List.mem_of_getElem? (i := 2) rfl) rfl dX2_weighSet_80 rfl ?_
      refine zz_iload_n (npc := 84) 1 rfl rfl dX2_weighSet_83 rfl ?_
      refine zz_dup2 (npc := 85) rfl rfl dX2_weighSet_84 rfl ?_
      refine zz_iald (npc := 86) (by decide) (by rfl) dX2_weighSet_85 rfl ?_
      refine zz_aload_n (npc := 87) 0 rfl rfl dX2_weighSet_86 rfl ?_
      refine zz_getR (npc := 90) (i := 2) (C0 := RX2) (T := TX2) (N := 3) (by decide) (by rfl) rfl (by decide) iX2_weighSet_2 (List.mem_of_getElem? (i := 2) rfl) rfl dX2_weighSet_87 rfl ?_
      refine zz_iload_n (npc := 91) 1 rfl rfl dX2_weighSet_90 rfl ?_
      refine zz_iload_n (npc := 92) 2 rfl rfl dX2_weighSet_91 rfl ?_
      refine zz_iload_n (npc := 93) 3 rfl rfl dX2_weighSet_92 rfl ?_
      refine zz_callSi (npc := 96) (n := 3) (As := [.int y1, .int y2, .int y3]) gX2_weighSet_X2_without rfl rfl rfl (by decide +kernel) ⟨Nat.le_of_ble_eq_true rfl, Nat.le_of_ble_eq_true rfl⟩ rfl rfl (Nat.le_of_ble_eq_true rfl) (mtX2_without E l  y1 y2 y3 M) dX2_weighSet_93 rfl (fun r10 M9 _ => ?_)
      refine zz_iald (npc := 97) (by decide) (by rfl) dX2_weighSet_96 rfl ?_
      refine zz_iadd (npc := 98) dX2_weighSet_97 rfl ?_
      refine zz_iast (npc := 99) (by decide) (by rfl) dX2_weighSet_98 rfl (fun M11 => ?_)
      refine zz_sub (npc := 0) (lv1 := [(0, .ref (eA E 29)), (1, .int y1), (2, .int y2), (3, .int y3)]) [0, 1, 2, 3] rfl ?_
      exact zX2_weighSet_L99 E l k21 hk21 y1 y2 y3 M11
noncomputable def fX2_weighSet_L21   : Nat → Int32 → Int32 → Int32 → Mem → Option (Unit × Mem)
  | 0, _, _, _, _ => none
  | n + 1, y1, y2, y3, M => (if 8 ≤ y3 then (some ((), M)) else (bd (fX2_worthWith y1 y2 y3 M) fun r6 M5 => (ck (inb y1 256) (if r6 ≤ (M5 31 (ix y1)) then (fX2_weighSet_L62 (fX2_weighSet_L21  n) y1 y2 y3 r6 M5) else (ck (inb y1 256) (wm (wr M5 31 (ix y1) r6) fun M7 => (ck (inb y1 256) (wm (wr M7 32 (ix y1) 0) fun M8 => (fX2_weighSet_L62 (fX2_weighSet_L21  n) y1 y2 y3 r6 M8)))))))))
set_option maxHeartbeats 4000000 in
set_option maxRecDepth 100000 in
theorem zX2_weighSet_L21 (E : EV) (l : Launch)     : ∀ (n : Nat) (y1 : Int32) (y2 : Int32) (y3 : Int32) (M : Mem), ZZ E l RX2 cX2_weighSet 5 none wsX2_weighSet rmX2_weighSet vV (fX2_weighSet_L21 n y1 y2 y3 M) M [(0, .ref (eA E 29)), (1, .int y1), (2, .int y2), (3, .int y3)] 21 [] := by
  intro n
  induction n with
  | zero => intros; exact zz_none
  | succ n ih =>
    intro y1 y2 y3 M
    rw [fX2_weighSet_L21]
    refine zz_iload_n (npc := 22) 3 rfl rfl dX2_weighSet_21 rfl ?_
    refine zz_bipush (npc := 24) 8 (by decide) dX2_weighSet_22 rfl ?_
    refine zz_icmp_ge (tgt := 105) (npc := 27) dX2_weighSet_24 (by decide) rfl ?_ ?_
    · exact zz_vret dX2_weighSet_105
    · refine zz_aload_n (npc := 28) 0 rfl rfl dX2_weighSet_27 rfl ?_
      refine zz_iload_n (npc := 29) 1 rfl rfl dX2_weighSet_28 rfl ?_
      refine zz_iload_n (npc := 30) 2 rfl rfl dX2_weighSet_29 rfl ?_
      refine zz_iload_n (npc := 31) 3 rfl rfl dX2_weighSet_30 rfl ?_
      refine zz_callVi (npc := 34) (n := 3) (As := [.int y1, .int y2, .int y3]) (by decide) (by rfl) rfl gX2_weighSet_X2_worthWith rfl rfl rfl (by decide +kernel) ⟨Nat.le_of_ble_eq_true rfl, Nat.le_of_ble_eq_true rfl⟩ rfl rfl (Nat.le_of_ble_eq_true rfl) (mtX2_worthWith E l  y1 y2 y3 M) dX2_weighSet_31 rfl (fun r6 M5 _ => ?_)
      refine zz_istore (npc := 36) (lv1 := [(4, .int r6), (0, .ref (eA E 29)), (1, .int y1), (2, .int y2), (3, .int y3)]) dX2_weighSet_34 rfl (by decide) rfl ?_
      refine zz_iload (npc := 38) 0 rfl dX2_weighSet_36 rfl ?_
      refine zz_aload_n (npc := 39) 1 rfl rfl dX2_weighSet_38 rfl ?_
      refine zz_getR (npc := 42) (i := 1) (C0 := RX2) (T := TX2) (N := 3) (by decide) (by rfl) rfl (by decide) iX2_weighSet_2 (List.mem_of_getElem? (i := 1) rfl) rfl dX2_weighSet_39 rfl ?_
      refine zz_iload_n (npc := 43) 2 rfl rfl dX2_weighSet_42 rfl ?_
      refine zz_iald (npc := 44) (by decide) (by rfl) dX2_weighSet_43 rfl ?_
      refine zz_icmp_le (tgt := 62) (npc := 47) dX2_weighSet_44 (by decide) rfl ?_ ?_
      · refine zz_sub (npc := 0) (lv1 := [(0, .ref (eA E 29)), (1, .int y1), (2, .int y2), (3, .int y3), (4, .int r6)]) [1, 2, 3, 4, 0] rfl ?_
        exact zX2_weighSet_L62 E l (fX2_weighSet_L21  n) ih y1 y2 y3 r6 M5
      · refine zz_aload_n (npc := 48) 1 rfl rfl dX2_weighSet_47 rfl ?_
        refine zz_getR (npc := 51) (i := 1) (C0 := RX2) (T := TX2) (N := 3) (by decide) (by rfl) rfl (by decide) iX2_weighSet_2 (List.mem_of_getElem? (i := 1) rfl) rfl dX2_weighSet_48 rfl ?_
        refine zz_iload_n (npc := 52) 2 rfl rfl dX2_weighSet_51 rfl ?_
        refine zz_iload (npc := 54) 0 rfl dX2_weighSet_52 rfl ?_
        refine zz_iast (npc := 55) (by decide) (by rfl) dX2_weighSet_54 rfl (fun M7 => ?_)
        refine zz_aload_n (npc := 56) 1 rfl rfl dX2_weighSet_55 rfl ?_
        refine zz_getR (npc := 59) (i := 2) (C0 := RX2) (T := TX2) (N := 3) (by decide) (by rfl) rfl (by decide) iX2_weighSet_2 (List.mem_of_getElem? (i := 2) rfl) rfl dX2_weighSet_56 rfl ?_
        refine zz_iload_n (npc := 60) 2 rfl rfl dX2_weighSet_59 rfl ?_
        refine zz_iconst (npc := 61) 0 (by decide) dX2_weighSet_60 rfl ?_
        refine zz_iast (npc := 62) (by decide) (by rfl) dX2_weighSet_61 rfl (fun M8 => ?_)
        refine zz_sub (npc := 0) (lv1 := [(0, .ref (eA E 29)), (1, .int y1), (2, .int y2), (3, .int y3), (4, .int r6)]) [1, 2, 3, 4, 0] rfl ?_
        exact zX2_weighSet_L62 E l (fX2_weighSet_L21  n) ih y1 y2 y3 r6 M8
noncomputable def fX2_weighSet  (x1 : Int32) (M : Mem) : Option (Unit × Mem) := (bd (fX2_leastOf x1 M) fun r2 M1 => (ck (inb x1 256) (wm (wr M1 31 (ix x1) (-1)) fun M3 => (ck (inb x1 256) (wm (wr M3 32 (ix x1) 0) fun M4 => (fX2_weighSet_L21  fu x1 r2 r2 M4))))))
set_option maxHeartbeats 4000000 in
set_option maxRecDepth 100000 in
theorem mtX2_weighSet (E : EV) (l : Launch)   (x1 : Int32) (M : Mem) : CT E l yX2_weighSet wsX2_weighSet rmX2_weighSet vV [.ref (eA E 29), .int x1] (fX2_weighSet x1 M) M := by
  refine ct_of (cc := cX2_weighSet) (nL := 5) (ret := none) (by decide +kernel) rfl (Nat.le_of_ble_eq_true rfl) ?_
  show ZZ E l RX2 cX2_weighSet 5 none wsX2_weighSet rmX2_weighSet vV (fX2_weighSet x1 M) M [(0, .ref (eA E 29)), (1, .int x1)] 0 []
  unfold fX2_weighSet
  refine zz_iload_n (npc := 1) 1 rfl rfl dX2_weighSet_0 rfl ?_
  refine zz_callSi (npc := 4) (n := 1) (As := [.int x1]) gX2_weighSet_X2_leastOf rfl rfl rfl (by decide +kernel) ⟨Nat.le_of_ble_eq_true rfl, Nat.le_of_ble_eq_true rfl⟩ rfl rfl (Nat.le_of_ble_eq_true rfl) (mtX2_leastOf E l  x1 M) dX2_weighSet_1 rfl (fun r2 M1 _ => ?_)
  refine zz_istore_n (npc := 5) (lv1 := [(2, .int r2), (0, .ref (eA E 29)), (1, .int x1)]) rfl dX2_weighSet_4 rfl (by decide) rfl ?_
  refine zz_aload_n (npc := 6) 1 rfl rfl dX2_weighSet_5 rfl ?_
  refine zz_getR (npc := 9) (i := 1) (C0 := RX2) (T := TX2) (N := 3) (by decide) (by rfl) rfl (by decide) iX2_weighSet_2 (List.mem_of_getElem? (i := 1) rfl) rfl dX2_weighSet_6 rfl ?_
  refine zz_iload_n (npc := 10) 2 rfl rfl dX2_weighSet_9 rfl ?_
  refine zz_iconst (npc := 11) (-1) (by decide) dX2_weighSet_10 rfl ?_
  refine zz_iast (npc := 12) (by decide) (by rfl) dX2_weighSet_11 rfl (fun M3 => ?_)
  refine zz_aload_n (npc := 13) 1 rfl rfl dX2_weighSet_12 rfl ?_
  refine zz_getR (npc := 16) (i := 2) (C0 := RX2) (T := TX2) (N := 3) (by decide) (by rfl) rfl (by decide) iX2_weighSet_2 (List.mem_of_getElem? (i := 2) rfl) rfl dX2_weighSet_13 rfl ?_
  refine zz_iload_n (npc := 17) 2 rfl rfl dX2_weighSet_16 rfl ?_
  refine zz_iconst (npc := 18) 0 (by decide) dX2_weighSet_17 rfl ?_
  refine zz_iast (npc := 19) (by decide) (by rfl) dX2_weighSet_18 rfl (fun M4 => ?_)
  refine zz_iload_n (npc := 20) 0 rfl rfl dX2_weighSet_19 rfl ?_
  refine zz_istore_n (npc := 21) (lv1 := [(3, .int r2), (2, .int r2), (0, .ref (eA E 29)), (1, .int x1)]) rfl dX2_weighSet_20 rfl (by decide) rfl ?_
  refine zz_sub (npc := 0) (lv1 := [(0, .ref (eA E 29)), (1, .int x1), (2, .int r2), (3, .int r2)]) [2, 3, 1, 0] rfl ?_
  exact zX2_weighSet_L21 E l  fu x1 r2 r2 M4
abbrev rmX2_weigh : Room := { frames := 4, cells := 0, slots := 0, locals := 94 }
theorem iX2_weigh_2 : ∀ w ∈ u_ws RX2 TX2 3, w ∈ wsX2_weigh := fun w h => List.mem_cons_of_mem _ (List.mem_append_right _ h)
noncomputable def fX2_weigh_L16   : Nat → Int32 → Int32 → Mem → Option (Unit × Mem)
  | 0, _, _, _ => none
  | n + 1, y1, y2, M => (if y1 < y2 then (some ((), M)) else (if 256 ≤ y2 then (some ((), M)) else (bd (fX2_weighSet y2 M) fun _ M3 => (bv (y2 + 1) fun v4 => (fX2_weigh_L16  n y1 v4 M3)))))
set_option maxHeartbeats 4000000 in
set_option maxRecDepth 100000 in
theorem zX2_weigh_L16 (E : EV) (l : Launch)     : ∀ (n : Nat) (y1 : Int32) (y2 : Int32) (M : Mem), ZZ E l RX2 cX2_weigh 3 none wsX2_weigh rmX2_weigh vV (fX2_weigh_L16 n y1 y2 M) M [(0, .ref (eA E 29)), (1, .int y1), (2, .int y2)] 16 [] := by
  intro n
  induction n with
  | zero => intros; exact zz_none
  | succ n ih =>
    intro y1 y2 M
    rw [fX2_weigh_L16]
    refine zz_iload_n (npc := 17) 2 rfl rfl dX2_weigh_16 rfl ?_
    refine zz_iload_n (npc := 18) 1 rfl rfl dX2_weigh_17 rfl ?_
    refine zz_icmp_gt (tgt := 41) (npc := 21) dX2_weigh_18 (by decide) rfl ?_ ?_
    · exact zz_vret dX2_weigh_41
    · refine zz_iload_n (npc := 22) 2 rfl rfl dX2_weigh_21 rfl ?_
      refine zz_aload_n (npc := 23) 0 rfl rfl dX2_weigh_22 rfl ?_
      refine zz_getR (npc := 26) (i := 1) (C0 := RX2) (T := TX2) (N := 3) (by decide) (by rfl) rfl (by decide) iX2_weigh_2 (List.mem_of_getElem? (i := 1) rfl) rfl dX2_weigh_23 rfl ?_
      refine zz_alen (npc := 27) 256 (by decide) (by rfl) (by decide) dX2_weigh_26 rfl ?_
      refine zz_icmp_ge (tgt := 41) (npc := 30) dX2_weigh_27 (by decide) rfl ?_ ?_
      · exact zz_vret dX2_weigh_41
      · refine zz_aload_n (npc := 31) 0 rfl rfl dX2_weigh_30 rfl ?_
        refine zz_iload_n (npc := 32) 2 rfl rfl dX2_weigh_31 rfl ?_
        refine zz_callVv (npc := 35) (n := 1) (As := [.int y2]) (by decide) (by rfl) rfl gX2_weigh_X2_weighSet rfl rfl rfl (by decide +kernel) ⟨Nat.le_of_ble_eq_true rfl, Nat.le_of_ble_eq_true rfl⟩ rfl rfl (Nat.le_of_ble_eq_true rfl) (mtX2_weighSet E l  y2 M) dX2_weigh_32 rfl (fun _ M3 _ => ?_)
        refine zz_iincB (npc := 38) (y2 + 1) (lv1 := fun v4 => [(2, .int v4), (0, .ref (eA E 29)), (1, .int y1)]) dX2_weigh_35 rfl 2 rfl rfl (by decide) (fun _ => rfl) (fun v4 => ?_)
        refine zz_goto (npc := 0) (tgt := 16) dX2_weigh_38 (by decide) ?_
        refine zz_sub (npc := 0) (lv1 := [(0, .ref (eA E 29)), (1, .int y1), (2, .int v4)]) [1, 2, 0] rfl ?_
        exact ih y1 v4 M3
noncomputable def fX2_weigh  (x1 : Int32) (M : Mem) : Option (Unit × Mem) := (ck (inb 0 256) (wm (wr M 31 (ix 0) 0) fun M1 => (ck (inb 0 256) (wm (wr M1 32 (ix 0) 1) fun M2 => (fX2_weigh_L16  fu x1 1 M2)))))
set_option maxHeartbeats 4000000 in
set_option maxRecDepth 100000 in
theorem mtX2_weigh (E : EV) (l : Launch)   (x1 : Int32) (M : Mem) : CT E l yX2_weigh wsX2_weigh rmX2_weigh vV [.ref (eA E 29), .int x1] (fX2_weigh x1 M) M := by
  refine ct_of (cc := cX2_weigh) (nL := 3) (ret := none) (by decide +kernel) rfl (Nat.le_of_ble_eq_true rfl) ?_
  show ZZ E l RX2 cX2_weigh 3 none wsX2_weigh rmX2_weigh vV (fX2_weigh x1 M) M [(0, .ref (eA E 29)), (1, .int x1)] 0 []
  unfold fX2_weigh
  refine zz_aload_n (npc := 1) 0 rfl rfl dX2_weigh_0 rfl ?_
  refine zz_getR (npc := 4) (i := 1) (C0 := RX2) (T := TX2) (N := 3) (by decide) (by rfl) rfl (by decide) iX2_weigh_2 (List.mem_of_getElem? (i := 1) rfl) rfl dX2_weigh_1 rfl ?_
  refine zz_iconst (npc := 5) 0 (by decide) dX2_weigh_4 rfl ?_
  refine zz_iconst (npc := 6) 0 (by decide) dX2_weigh_5 rfl ?_
  refine zz_iast (npc := 7) (by decide) (by rfl) dX2_weigh_6 rfl (fun M1 => ?_)
  refine zz_aload_n (npc := 8) 0 rfl rfl dX2_weigh_7 rfl ?_
  refine zz_getR (npc := 11) (i := 2) (C0 := RX2) (T := TX2) (N := 3) (by decide) (by rfl) rfl (by decide) iX2_weigh_2 (List.mem_of_getElem? (i := 2) rfl) rfl dX2_weigh_8 rfl ?_
  refine zz_iconst (npc := 12) 0 (by decide) dX2_weigh_11 rfl ?_
  refine zz_iconst (npc := 13) 1 (by decide) dX2_weigh_12 rfl ?_
  refine zz_iast (npc := 14) (by decide) (by rfl) dX2_weigh_13 rfl (fun M2 => ?_)
  refine zz_iconst (npc := 15) 1 (by decide) dX2_weigh_14 rfl ?_
  refine zz_istore_n (npc := 16) (lv1 := [(2, .int 1), (0, .ref (eA E 29)), (1, .int x1)]) rfl dX2_weigh_15 rfl (by decide) rfl ?_
  refine zz_sub (npc := 0) (lv1 := [(0, .ref (eA E 29)), (1, .int x1), (2, .int 1)]) [1, 2, 0] rfl ?_
  exact zX2_weigh_L16 E l  fu x1 1 M2
abbrev rmX2_bestOf : Room := { frames := 1, cells := 0, slots := 0, locals := 21 }
theorem iX2_bestOf_2 : ∀ w ∈ u_ws RX2 TX2 3, w ∈ wsX2_bestOf := fun w h => List.mem_cons_of_mem _ (List.mem_append_right _ h)
noncomputable def fX2_bestOf  (x1 : Int32) (M : Mem) : Option (Int32 × Mem) := (bd (fX7_isWithin x1 (256 - 1) M) fun r2 M1 => (if r2 = 0 then (some (0, M1)) else (ck (inb x1 256) (some (M1 31 (ix x1), M1)))))
set_option maxHeartbeats 4000000 in
set_option maxRecDepth 100000 in
theorem mtX2_bestOf (E : EV) (l : Launch)   (x1 : Int32) (M : Mem) : CT E l yX2_bestOf wsX2_bestOf rmX2_bestOf vI [.ref (eA E 29), .int x1] (fX2_bestOf x1 M) M := by
  refine ct_of (cc := cX2_bestOf) (nL := 2) (ret := (some .int)) (by decide +kernel) rfl (Nat.le_of_ble_eq_true rfl) ?_
  show ZZ E l RX2 cX2_bestOf 2 (some .int) wsX2_bestOf rmX2_bestOf vI (fX2_bestOf x1 M) M [(0, .ref (eA E 29)), (1, .int x1)] 0 []
  unfold fX2_bestOf
  refine zz_iload_n (npc := 1) 1 rfl rfl dX2_bestOf_0 rfl ?_
  refine zz_aload_n (npc := 2) 0 rfl rfl dX2_bestOf_1 rfl ?_
  refine zz_getR (npc := 5) (i := 1) (C0 := RX2) (T := TX2) (N := 3) (by decide) (by rfl) rfl (by decide) iX2_bestOf_2 (List.mem_of_getElem? (i := 1) rfl) rfl dX2_bestOf_2 rfl ?_
  refine zz_alen (npc := 6) 256 (by decide) (by rfl) (by decide) dX2_bestOf_5 rfl ?_
  refine zz_iconst (npc := 7) 1 (by decide) dX2_bestOf_6 rfl ?_
  refine zz_isub (npc := 8) dX2_bestOf_7 rfl ?_
  refine zz_callNi (npc := 11) (n := 2) (As := [.int x1, .int (256 - 1)]) (host := "SharedShadow") gX2_bestOf_X7_isWithin_n21 (List.mem_of_getElem? (i := 10) rfl) (List.mem_of_getElem? (i := 2) rfl) (List.mem_of_getElem? (i := 3) rfl) rfl rfl rfl (by decide +kernel) ⟨Nat.le_of_ble_eq_true rfl, Nat.le_of_ble_eq_true rfl⟩ rfl rfl (Nat.le_of_ble_eq_true rfl) (mtX7_isWithin E l  x1 (256 - 1) M) dX2_bestOf_8 rfl (fun r2 M1 _ => ?_)
  refine zz_if_eq (tgt := 23) (npc := 14) dX2_bestOf_11 (by decide) rfl ?_ ?_
  · refine zz_iconst (npc := 24) 0 (by decide) dX2_bestOf_23 rfl ?_
    exact zz_iret dX2_bestOf_24
  · refine zz_aload_n (npc := 15) 0 rfl rfl dX2_bestOf_14 rfl ?_
    refine zz_getR (npc := 18) (i := 1) (C0 := RX2) (T := TX2) (N := 3) (by decide) (by rfl) rfl (by decide) iX2_bestOf_2 (List.mem_of_getElem? (i := 1) rfl) rfl dX2_bestOf_15 rfl ?_
    refine zz_iload_n (npc := 19) 1 rfl rfl dX2_bestOf_18 rfl ?_
    refine zz_iald (npc := 20) (by decide) (by rfl) dX2_bestOf_19 rfl ?_
    refine zz_goto (npc := 0) (tgt := 24) dX2_bestOf_20 (by decide) ?_
    exact zz_iret dX2_bestOf_24
abbrev rmX2_waysOf : Room := { frames := 1, cells := 0, slots := 0, locals := 21 }
theorem iX2_waysOf_2 : ∀ w ∈ u_ws RX2 TX2 3, w ∈ wsX2_waysOf := fun w h => List.mem_cons_of_mem _ (List.mem_append_right _ h)
noncomputable def fX2_waysOf  (x1 : Int32) (M : Mem) : Option (Int32 × Mem) := (bd (fX7_isWithin x1 (256 - 1) M) fun r2 M1 => (if r2 = 0 then (some (0, M1)) else (ck (inb x1 256) (some (M1 32 (ix x1), M1)))))
set_option maxHeartbeats 4000000 in
set_option maxRecDepth 100000 in
theorem mtX2_waysOf (E : EV) (l : Launch)   (x1 : Int32) (M : Mem) : CT E l yX2_waysOf wsX2_waysOf rmX2_waysOf vI [.ref (eA E 29), .int x1] (fX2_waysOf x1 M) M := by
  refine ct_of (cc := cX2_waysOf) (nL := 2) (ret := (some .int)) (by decide +kernel) rfl (Nat.le_of_ble_eq_true rfl) ?_
  show ZZ E l RX2 cX2_waysOf 2 (some .int) wsX2_waysOf rmX2_waysOf vI (fX2_waysOf x1 M) M [(0, .ref (eA E 29)), (1, .int x1)] 0 []
  unfold fX2_waysOf
  refine zz_iload_n (npc := 1) 1 rfl rfl dX2_waysOf_0 rfl ?_
  refine zz_aload_n (npc := 2) 0 rfl rfl dX2_waysOf_1 rfl ?_
  refine zz_getR (npc := 5) (i := 2) (C0 := RX2) (T := TX2) (N := 3) (by decide) (by rfl) rfl (by decide) iX2_waysOf_2 (List.mem_of_getElem? (i := 1) rfl) rfl dX2_waysOf_2 rfl ?_
  refine zz_alen (npc := 6) 256 (by decide) (by rfl) (by decide) dX2_waysOf_5 rfl ?_
  refine zz_iconst (npc := 7) 1 (by decide) dX2_waysOf_6 rfl ?_
  refine zz_isub (npc := 8) dX2_waysOf_7 rfl ?_
  refine zz_callNi (npc := 11) (n := 2) (As := [.int x1, .int (256 - 1)]) (host := "SharedShadow") gX2_waysOf_X7_isWithin_n21 (List.mem_of_getElem? (i := 10) rfl) (List.mem_of_getElem? (i := 2) rfl) (List.mem_of_getElem? (i := 3) rfl) rfl rfl rfl (by decide +kernel) ⟨Nat.le_of_ble_eq_true rfl, Nat.le_of_ble_eq_true rfl⟩ rfl rfl (Nat.le_of_ble_eq_true rfl) (mtX7_isWithin E l  x1 (256 - 1) M) dX2_waysOf_8 rfl (fun r2 M1 _ => ?_)
  refine zz_if_eq (tgt := 23) (npc := 14) dX2_waysOf_11 (by decide) rfl ?_ ?_
  · refine zz_iconst (npc := 24) 0 (by decide) dX2_waysOf_23 rfl ?_
    exact zz_iret dX2_waysOf_24
  · refine zz_aload_n (npc := 15) 0 rfl rfl dX2_waysOf_14 rfl ?_
    refine zz_getR (npc := 18) (i := 2) (C0 := RX2) (T := TX2) (N := 3) (by decide) (by rfl) rfl (by decide) iX2_waysOf_2 (List.mem_of_getElem? (i := 1) rfl) rfl dX2_waysOf_15 rfl ?_
    refine zz_iload_n (npc := 19) 1 rfl rfl dX2_waysOf_18 rfl ?_
    refine zz_iald (npc := 20) (by decide) (by rfl) dX2_waysOf_19 rfl ?_
    refine zz_goto (npc := 0) (tgt := 24) dX2_waysOf_20 (by decide) ?_
    exact zz_iret dX2_waysOf_24
abbrev rmX2_firstBest : Room := { frames := 3, cells := 0, slots := 0, locals := 70 }
theorem iX2_firstBest_2 : ∀ w ∈ u_ws RX2 TX2 3, w ∈ wsX2_firstBest := fun w h => List.mem_cons_of_mem _ (List.mem_append_right _ h)
noncomputable def fX2_firstBest_L2   : Nat → Int32 → Int32 → Int32 → Mem → Option (Int32 × Mem)
  | 0, _, _, _, _ => none
  | n + 1, y1, y2, y3, M => (if 8 ≤ y3 then (some (y2, M)) else (bd (fX2_worthWith y1 y2 y3 M) fun r2 M1 => (ck (inb y1 256) (if r2 = (M1 31 (ix y1)) then (some (y3, M1)) else (bv (y3 + 1) fun v3 => (fX2_firstBest_L2  n y1 y2 v3 M1))))))
set_option maxHeartbeats 4000000 in
set_option maxRecDepth 100000 in
theorem zX2_firstBest_L2 (E : EV) (l : Launch)     : ∀ (n : Nat) (y1 : Int32) (y2 : Int32) (y3 : Int32) (M : Mem), ZZ E l RX2 cX2_firstBest 4 (some .int) wsX2_firstBest rmX2_firstBest vI (fX2_firstBest_L2 n y1 y2 y3 M) M [(0, .ref (eA E 29)), (1, .int y1), (2, .int y2), (3, .int y3)] 2 [] := by
  intro n
  induction n with
  | zero => intros; exact zz_none
  | succ n ih =>
    intro y1 y2 y3 M
    rw [fX2_firstBest_L2]
    refine zz_iload_n (npc := 3) 3 rfl rfl dX2_firstBest_2 rfl ?_
    refine zz_bipush (npc := 5) 8 (by decide) dX2_firstBest_3 rfl ?_
    refine zz_icmp_ge (tgt := 32) (npc := 8) dX2_firstBest_5 (by decide) rfl ?_ ?_
    · refine zz_iload_n (npc := 33) 2 rfl rfl dX2_firstBest_32 rfl ?_
      exact zz_iret dX2_firstBest_33
    · refine zz_aload_n (npc := 9) 0 rfl rfl dX2_firstBest_8 rfl ?_
      refine zz_iload_n (npc := 10) 1 rfl rfl dX2_firstBest_9 rfl ?_
      refine zz_iload_n (npc := 11) 2 rfl rfl dX2_firstBest_10 rfl ?_
      refine zz_iload_n (npc := 12) 3 rfl rfl dX2_firstBest_11 rfl ?_
      refine zz_callVi (npc := 15) (n := 3) (As := [.int y1, .int y2, .int y3]) (by decide) (by rfl) rfl gX2_firstBest_X2_worthWith rfl rfl rfl (by decide +kernel) ⟨Nat.le_of_ble_eq_true rfl, Nat.le_of_ble_eq_true rfl⟩ rfl rfl (Nat.le_of_ble_eq_true rfl) (mtX2_worthWith E l  y1 y2 y3 M) dX2_firstBest_12 rfl (fun r2 M1 _ => ?_)
      refine zz_aload_n (npc := 16) 0 rfl rfl dX2_firstBest_15 rfl ?_
      refine zz_getR (npc := 19) (i := 1) (C0 := RX2) (T := TX2) (N := 3) (by decide) (by rfl) rfl (by decide) iX2_firstBest_2 (List.mem_of_getElem? (i := 1) rfl) rfl dX2_firstBest_16 rfl ?_
      refine zz_iload_n (npc := 20) 1 rfl rfl dX2_firstBest_19 rfl ?_
      refine zz_iald (npc := 21) (by decide) (by rfl) dX2_firstBest_20 rfl ?_
      refine zz_icmp_ne (tgt := 26) (npc := 24) dX2_firstBest_21 (by decide) rfl ?_ ?_
      · refine zz_iincB (npc := 29) (y3 + 1) (lv1 := fun v3 => [(3, .int v3), (0, .ref (eA E 29)), (1, .int y1), (2, .int y2)]) dX2_firstBest_26 rfl 3 rfl rfl (by decide) (fun _ => rfl) (fun v3 => ?_)
        refine zz_goto (npc := 0) (tgt := 2) dX2_firstBest_29 (by decide) ?_
        refine zz_sub (npc := 0) (lv1 := [(0, .ref (eA E 29)), (1, .int y1), (2, .int y2), (3, .int v3)]) [1, 2, 3, 0] rfl ?_
        exact ih y1 y2 v3 M1
      · refine zz_iload_n (npc := 25) 3 rfl rfl dX2_firstBest_24 rfl ?_
        exact zz_iret dX2_firstBest_25
noncomputable def fX2_firstBest  (x1 : Int32) (x2 : Int32) (M : Mem) : Option (Int32 × Mem) := (fX2_firstBest_L2  fu x1 x2 x2 M)
set_option maxHeartbeats 4000000 in
set_option maxRecDepth 100000 in
theorem mtX2_firstBest (E : EV) (l : Launch)   (x1 : Int32) (x2 : Int32) (M : Mem) : CT E l yX2_firstBest wsX2_firstBest rmX2_firstBest vI [.ref (eA E 29), .int x1, .int x2] (fX2_firstBest x1 x2 M) M := by
  refine ct_of (cc := cX2_firstBest) (nL := 4) (ret := (some .int)) (by decide +kernel) rfl (Nat.le_of_ble_eq_true rfl) ?_
  show ZZ E l RX2 cX2_firstBest 4 (some .int) wsX2_firstBest rmX2_firstBest vI (fX2_firstBest x1 x2 M) M [(0, .ref (eA E 29)), (1, .int x1), (2, .int x2)] 0 []
  unfold fX2_firstBest
  refine zz_iload_n (npc := 1) 2 rfl rfl dX2_firstBest_0 rfl ?_
  refine zz_istore_n (npc := 2) (lv1 := [(3, .int x2), (0, .ref (eA E 29)), (1, .int x1), (2, .int x2)]) rfl dX2_firstBest_1 rfl (by decide) rfl ?_
  refine zz_sub (npc := 0) (lv1 := [(0, .ref (eA E 29)), (1, .int x1), (2, .int x2), (3, .int x2)]) [1, 2, 3, 0] rfl ?_
  exact zX2_firstBest_L2 E l  fu x1 x2 x2 M
abbrev rmX2_firstMateOf : Room := { frames := 4, cells := 0, slots := 0, locals := 93 }
theorem iX2_firstMateOf_2 : ∀ w ∈ u_ws RX2 TX2 3, w ∈ wsX2_firstMateOf := fun w h => List.mem_cons_of_mem _ (List.mem_append_right _ h)
noncomputable def fX2_firstMateOf_L13   : Nat → Int32 → Int32 → Int32 → Mem → Option (Int32 × Mem)
  | 0, _, _, _, _ => none
  | n + 1, y1, y3, y4, M => (if 8 ≤ y4 then (some ((-1), M)) else (if y3 = 0 then (some ((-1), M)) else (bd (fX2_leastOf y3 M) fun r3 M2 => (bd (fX2_firstBest y3 r3 M2) fun r5 M4 => (if r3 = y1 then (if r5 = r3 then (some ((-1), M4)) else (some (r5, M4))) else (if r5 = y1 then (some (r3, M4)) else (bd (fX2_without y3 r3 r5 M4) fun r7 M6 => (bv (y4 + 1) fun v8 => (fX2_firstMateOf_L13  n y1 r7 v8 M6)))))))))
set_option maxHeartbeats 4000000 in
set_option maxRecDepth 100000 in
theorem zX2_firstMateOf_L13 (E : EV) (l : Launch)     : ∀ (n : Nat) (y1 : Int32) (y3 : Int32) (y4 : Int32) (M : Mem), ZZ E l RX2 cX2_firstMateOf 7 (some .int) wsX2_firstMateOf rmX2_firstMateOf vI (fX2_firstMateOf_L13 n y1 y3 y4 M) M [(0, .ref (eA E 29)), (1, .int y1), (3, .int y3), (4, .int y4)] 13 [] := by
  intro n
  induction n with
  | zero => intros; exact zz_none
  | succ n ih =>
    intro y1 y3 y4 M
    rw [fX2_firstMateOf_L13]
    refine zz_iload (npc := 15) 3 rfl dX2_firstMateOf_13 rfl ?_
    refine zz_bipush (npc := 17) 8 (by decide) dX2_firstMateOf_15 rfl ?_
    refine zz_icmp_ge (tgt := 83) (npc := 20) dX2_firstMateOf_17 (by decide) rfl ?_ ?_
    · refine zz_iconst (npc := 84) (-1) (by decide) dX2_firstMateOf_83 rfl ?_
      exact zz_iret dX2_firstMateOf_84
    · refine zz_iload_n (npc := 21) 2 rfl rfl dX2_firstMateOf_20 rfl ?_
      refine zz_if_eq (tgt := 83) (npc := 24) dX2_firstMateOf_21 (by decide) rfl ?_ ?_
      · refine zz_iconst (npc := 84) (-1) (by decide) dX2_firstMateOf_83 rfl ?_
        exact zz_iret dX2_firstMateOf_84
      · refine zz_iload_n (npc := 25) 2 rfl rfl dX2_firstMateOf_24 rfl ?_
        refine zz_callSi (npc := 28) (n := 1) (As := [.int y3]) gX2_firstMateOf_X2_leastOf rfl rfl rfl (by decide +kernel) ⟨Nat.le_of_ble_eq_true rfl, Nat.le_of_ble_eq_true rfl⟩ rfl rfl (Nat.le_of_ble_eq_true rfl) (mtX2_leastOf E l  y3 M) dX2_firstMateOf_25 rfl (fun r3 M2 _ => ?_)
        refine zz_istore (npc := 30) (lv1 := [(5, .int r3), (0, .ref (eA E 29)), (1, .int y1), (3, .int y3), (4, .int y4)]) dX2_firstMateOf_28 rfl (by decide) rfl ?_
        refine zz_aload_n (npc := 31) 1 rfl rfl dX2_firstMateOf_30 rfl ?_
        refine zz_iload_n (npc := 32) 3 rfl rfl dX2_firstMateOf_31 rfl ?_
        refine zz_iload (npc := 34) 0 rfl dX2_firstMateOf_32 rfl ?_
        refine zz_callVi (npc := 37) (n := 2) (As := [.int y3, .int r3]) (by decide) (by rfl) rfl gX2_firstMateOf_X2_firstBest rfl rfl rfl (by decide +kernel) ⟨Nat.le_of_ble_eq_true rfl, Nat.le_of_ble_eq_true rfl⟩ rfl rfl (Nat.le_of_ble_eq_true rfl) (mtX2_firstBest E l  y3 r3 M2) dX2_firstMateOf_34 rfl (fun r5 M4 _ => ?_)
        refine zz_istore (npc := 39) (lv1 := [(6, .int r5), (5, .int r3), (0, .ref (eA E 29)), (1, .int y1), (3, .int y3), (4, .int y4)]) dX2_firstMateOf_37 rfl (by decide) rfl ?_
        refine zz_iload (npc := 41) 1 rfl dX2_firstMateOf_39 rfl ?_
        refine zz_iload_n (npc := 42) 3 rfl rfl dX2_firstMateOf_41 rfl ?_
        refine zz_icmp_ne (tgt := 59) (npc := 45) dX2_firstMateOf_42 (by decide) rfl ?_ ?_
        · refine zz_iload (npc := 61) 0 rfl dX2_firstMateOf_59 rfl ?_
          refine zz_iload_n (npc := 62) 3 rfl rfl dX2_firstMateOf_61 rfl ?_
          refine zz_icmp_ne (tgt := 68) (npc := 65) dX2_firstMateOf_62 (by decide) rfl ?_ ?_
          · refine zz_iload_n (npc := 69) 4 rfl rfl dX2_firstMateOf_68 rfl ?_
            refine zz_iload (npc := 71) 1 rfl dX2_firstMateOf_69 rfl ?_
            refine zz_iload (npc := 73) 0 rfl dX2_firstMateOf_71 rfl ?_
            refine zz_callSi (npc := 76) (n := 3) (As := [.int y3, .int r3, .int r5]) gX2_firstMateOf_X2_without rfl rfl rfl (by decide +kernel) ⟨Nat.le_of_ble_eq_true rfl, Nat.le_of_ble_eq_true rfl⟩ rfl rfl (Nat.le_of_ble_eq_true rfl) (mtX2_without E l  y3 r3 r5 M4) dX2_firstMateOf_73 rfl (fun r7 M6 _ => ?_)
            refine zz_istore_n (npc := 77) (lv1 := [(3, .int r7), (6, .int r5), (5, .int r3), (0, .ref (eA E 29)), (1, .int y1), (4, .int y4)]) rfl dX2_firstMateOf_76 rfl (by decide) rfl ?_
            refine zz_iincB (npc := 80) (y4 + 1) (lv1 := fun v8 => [(4, .int v8), (3, .int r7), (6, .int r5), (5, .int r3), (0, .ref (eA E 29)), (1, .int y1)]) dX2_firstMateOf_77 rfl 5 rfl rfl (by decide) (fun _ => rfl) (fun v8 => ?_)
            refine zz_goto (npc := 0) (tgt := 13) dX2_firstMateOf_80 (by decide) ?_
            refine zz_sub (npc := 0) (lv1 := [(0, .ref (eA E 29)), (1, .int y1), (3, .int r7), (4, .int v8)]) [4, 5, 1, 0] rfl ?_
            exact ih y1 r7 v8 M6
          · refine zz_iload (npc := 67) 1 rfl dX2_firstMateOf_65 rfl ?_
            exact zz_iret dX2_firstMateOf_67
        · refine zz_iload (npc := 47) 0 rfl dX2_firstMateOf_45 rfl ?_
          refine zz_iload (npc := 49) 1 rfl dX2_firstMateOf_47 rfl ?_
          refine zz_icmp_ne (tgt := 56) (npc := 52) dX2_firstMateOf_49 (by decide) rfl ?_ ?_
          · refine zz_iload (npc := 58) 0 rfl dX2_firstMateOf_56 rfl ?_
            exact zz_iret dX2_firstMateOf_58
          · refine zz_iconst (npc := 53) (-1) (by decide) dX2_firstMateOf_52 rfl ?_
            refine zz_goto (npc := 0) (tgt := 58) dX2_firstMateOf_53 (by decide) ?_
            exact zz_iret dX2_firstMateOf_58
noncomputable def fX2_firstMateOf  (x1 : Int32) (x2 : Int32) (M : Mem) : Option (Int32 × Mem) := (bv (x2 &&& (256 - 1)) fun v1 => (fX2_firstMateOf_L13  fu x1 v1 0 M))
set_option maxHeartbeats 4000000 in
set_option maxRecDepth 100000 in
theorem mtX2_firstMateOf (E : EV) (l : Launch)   (x1 : Int32) (x2 : Int32) (M : Mem) : CT E l yX2_firstMateOf wsX2_firstMateOf rmX2_firstMateOf vI [.ref (eA E 29), .int x1, .int x2] (fX2_firstMateOf x1 x2 M) M := by
  refine ct_of (cc := cX2_firstMateOf) (nL := 7) (ret := (some .int)) (by decide +kernel) rfl (Nat.le_of_ble_eq_true rfl) ?_
  show ZZ E l RX2 cX2_firstMateOf 7 (some .int) wsX2_firstMateOf rmX2_firstMateOf vI (fX2_firstMateOf x1 x2 M) M [(0, .ref (eA E 29)), (1, .int x1), (2, .int x2)] 0 []
  unfold fX2_firstMateOf
  refine zz_iload_n (npc := 1) 2 rfl rfl dX2_firstMateOf_0 rfl ?_
  refine zz_aload_n (npc := 2) 0 rfl rfl dX2_firstMateOf_1 rfl ?_
  refine zz_getR (npc := 5) (i := 1) (C0 := RX2) (T := TX2) (N := 3) (by decide) (by rfl) rfl (by decide) iX2_firstMateOf_2 (List.mem_of_getElem? (i := 1) rfl) rfl dX2_firstMateOf_2 rfl ?_
  refine zz_alen (npc := 6) 256 (by decide) (by rfl) (by decide) dX2_firstMateOf_5 rfl ?_
  refine zz_iconst (npc := 7) 1 (by decide) dX2_firstMateOf_6 rfl ?_
  refine zz_isub (npc := 8) dX2_firstMateOf_7 rfl ?_
  refine zz_iand (npc := 9) dX2_firstMateOf_8 rfl ?_
  refine zz_istore_nB (npc := 10) (lv1 := fun v1 => [(3, .int v1), (0, .ref (eA E 29)), (1, .int x1), (2, .int x2)]) rfl dX2_firstMateOf_9 rfl (by decide) (fun _ => rfl) (fun v1 => ?_)
  refine zz_iconst (npc := 11) 0 (by decide) dX2_firstMateOf_10 rfl ?_
  refine zz_istore (npc := 13) (lv1 := [(4, .int 0), (3, .int v1), (0, .ref (eA E 29)), (1, .int x1), (2, .int x2)]) dX2_firstMateOf_11 rfl (by decide) rfl ?_
  refine zz_sub (npc := 0) (lv1 := [(0, .ref (eA E 29)), (1, .int x1), (3, .int v1), (4, .int 0)]) [2, 3, 1, 0] rfl ?_
  exact zX2_firstMateOf_L13 E l  fu x1 v1 0 M
abbrev rmX2_matesOf : Room := { frames := 3, cells := 0, slots := 0, locals := 70 }
theorem iX2_matesOf_2 : ∀ w ∈ u_ws RX2 TX2 3, w ∈ wsX2_matesOf := fun w h => List.mem_cons_of_mem _ (List.mem_append_right _ h)
noncomputable def fX2_matesOf_L52  (k16 : Int32 → Int32 → Int32 → Int32 → Mem → Option (Int32 × Mem)) (y1 : Int32) (y3 : Int32) (y4 : Int32) (y5 : Int32) (M : Mem) : Option (Int32 × Mem) := (bv (y5 + 1) fun v7 => (k16 y1 y3 y4 v7 M))
set_option maxHeartbeats 4000000 in
set_option maxRecDepth 100000 in
theorem zX2_matesOf_L52 (E : EV) (l : Launch)   (k16 : Int32 → Int32 → Int32 → Int32 → Mem → Option (Int32 × Mem)) (hk16 : ∀ (y1_ : Int32) (y3_ : Int32) (y4_ : Int32) (y5_ : Int32) (M_ : Mem), ZZ E l RX2 cX2_matesOf 6 (some .int) wsX2_matesOf rmX2_matesOf vI (k16 y1_ y3_ y4_ y5_ M_) M_ [(0, .ref (eA E 29)), (1, .int y1_), (3, .int y3_), (4, .int y4_), (5, .int y5_)] 16 []) : ∀ (y1 : Int32) (y3 : Int32) (y4 : Int32) (y5 : Int32) (M : Mem), ZZ E l RX2 cX2_matesOf 6 (some .int) wsX2_matesOf rmX2_matesOf vI (fX2_matesOf_L52 k16 y1 y3 y4 y5 M) M [(0, .ref (eA E 29)), (1, .int y1), (3, .int y3), (4, .int y4), (5, .int y5)] 52 [] := by
  intro y1 y3 y4 y5 M
  unfold fX2_matesOf_L52
  refine zz_iincB (npc := 55) (y5 + 1) (lv1 := fun v7 => [(5, .int v7), (0, .ref (eA E 29)), (1, .int y1), (3, .int y3), (4, .int y4)]) dX2_matesOf_52 rfl 4 rfl rfl (by decide) (fun _ => rfl) (fun v7 => ?_)
  refine zz_goto (npc := 0) (tgt := 16) dX2_matesOf_55 (by decide) ?_
  refine zz_sub (npc := 0) (lv1 := [(0, .ref (eA E 29)), (1, .int y1), (3, .int y3), (4, .int y4), (5, .int v7)]) [1, 2, 3, 4, 0] rfl ?_
  exact hk16 y1 y3 y4 v7 M
noncomputable def fX2_matesOf_L16   : Nat → Int32 → Int32 → Int32 → Int32 → Mem → Option (Int32 × Mem)
  | 0, _, _, _, _, _ => none
  | n + 1, y1, y3, y4, y5, M => (if 8 ≤ y5 then (some (y3, M)) else (bd (fX7_isWithin y1 7 M) fun r3 M2 => (if r3 = 0 then (fX2_matesOf_L52 (fX2_matesOf_L16  n) y1 y3 y4 y5 M2) else (bd (fX2_worthWith y4 y1 y5 M2) fun r5 M4 => (if r5 = (-1) then (fX2_matesOf_L52 (fX2_matesOf_L16  n) y1 y3 y4 y5 M4) else (bv (y3 ||| (shl 1 y5)) fun v6 => (fX2_matesOf_L52 (fX2_matesOf_L16  n) y1 v6 y4 y5 M4)))))))
set_option maxHeartbeats 4000000 in
set_option maxRecDepth 100000 in
theorem zX2_matesOf_L16 (E : EV) (l : Launch)     : ∀ (n : Nat) (y1 : Int32) (y3 : Int32) (y4 : Int32) (y5 : Int32) (M : Mem), ZZ E l RX2 cX2_matesOf 6 (some .int) wsX2_matesOf rmX2_matesOf vI (fX2_matesOf_L16 n y1 y3 y4 y5 M) M [(0, .ref (eA E 29)), (1, .int y1), (3, .int y3), (4, .int y4), (5, .int y5)] 16 [] := by
  intro n
  induction n with
  | zero => intros; exact zz_none
  | succ n ih =>
    intro y1 y3 y4 y5 M
    rw [fX2_matesOf_L16]
    refine zz_iload (npc := 18) 4 rfl dX2_matesOf_16 rfl ?_
    refine zz_bipush (npc := 20) 8 (by decide) dX2_matesOf_18 rfl ?_
    refine zz_icmp_ge (tgt := 58) (npc := 23) dX2_matesOf_20 (by decide) rfl ?_ ?_
    · refine zz_iload_n (npc := 59) 2 rfl rfl dX2_matesOf_58 rfl ?_
      exact zz_iret dX2_matesOf_59
    · refine zz_iload_n (npc := 24) 1 rfl rfl dX2_matesOf_23 rfl ?_
      refine zz_bipush (npc := 26) 7 (by decide) dX2_matesOf_24 rfl ?_
      refine zz_callNi (npc := 29) (n := 2) (As := [.int y1, .int 7]) (host := "SharedShadow") gX2_matesOf_X7_isWithin_n21 (List.mem_of_getElem? (i := 10) rfl) (List.mem_of_getElem? (i := 2) rfl) (List.mem_of_getElem? (i := 3) rfl) rfl rfl rfl (by decide +kernel) ⟨Nat.le_of_ble_eq_true rfl, Nat.le_of_ble_eq_true rfl⟩ rfl rfl (Nat.le_of_ble_eq_true rfl) (mtX7_isWithin E l  y1 7 M) dX2_matesOf_26 rfl (fun r3 M2 _ => ?_)
      refine zz_if_eq (tgt := 52) (npc := 32) dX2_matesOf_29 (by decide) rfl ?_ ?_
      · exact zX2_matesOf_L52 E l (fX2_matesOf_L16  n) ih y1 y3 y4 y5 M2
      · refine zz_aload_n (npc := 33) 0 rfl rfl dX2_matesOf_32 rfl ?_
        refine zz_iload (npc := 35) 3 rfl dX2_matesOf_33 rfl ?_
        refine zz_iload_n (npc := 36) 1 rfl rfl dX2_matesOf_35 rfl ?_
        refine zz_iload (npc := 38) 4 rfl dX2_matesOf_36 rfl ?_
        refine zz_callVi (npc := 41) (n := 3) (As := [.int y4, .int y1, .int y5]) (by decide) (by rfl) rfl gX2_matesOf_X2_worthWith rfl rfl rfl (by decide +kernel) ⟨Nat.le_of_ble_eq_true rfl, Nat.le_of_ble_eq_true rfl⟩ rfl rfl (Nat.le_of_ble_eq_true rfl) (mtX2_worthWith E l  y4 y1 y5 M2) dX2_matesOf_38 rfl (fun r5 M4 _ => ?_)
        refine zz_iconst (npc := 42) (-1) (by decide) dX2_matesOf_41 rfl ?_
        refine zz_icmp_eq (tgt := 52) (npc := 45) dX2_matesOf_42 (by decide) rfl ?_ ?_
        · exact zX2_matesOf_L52 E l (fX2_matesOf_L16  n) ih y1 y3 y4 y5 M4
        · refine zz_iload_n (npc := 46) 2 rfl rfl dX2_matesOf_45 rfl ?_
          refine zz_iconst (npc := 47) 1 (by decide) dX2_matesOf_46 rfl ?_
          refine zz_iload (npc := 49) 4 rfl dX2_matesOf_47 rfl ?_
          refine zz_ishl (npc := 50) dX2_matesOf_49 rfl ?_
          refine zz_ior (npc := 51) dX2_matesOf_50 rfl ?_
          refine zz_istore_nB (npc := 52) (lv1 := fun v6 => [(3, .int v6), (0, .ref (eA E 29)), (1, .int y1), (4, .int y4), (5, .int y5)]) rfl dX2_matesOf_51 rfl (by decide) (fun _ => rfl) (fun v6 => ?_)
          refine zz_sub (npc := 0) (lv1 := [(0, .ref (eA E 29)), (1, .int y1), (3, .int v6), (4, .int y4), (5, .int y5)]) [1, 2, 0, 3, 4] rfl ?_
          exact zX2_matesOf_L52 E l (fX2_matesOf_L16  n) ih y1 v6 y4 y5 M4
noncomputable def fX2_matesOf  (x1 : Int32) (x2 : Int32) (M : Mem) : Option (Int32 × Mem) := (bv (x2 &&& (256 - 1)) fun v1 => (fX2_matesOf_L16  fu x1 0 v1 0 M))
set_option maxHeartbeats 4000000 in
set_option maxRecDepth 100000 in
theorem mtX2_matesOf (E : EV) (l : Launch)   (x1 : Int32) (x2 : Int32) (M : Mem) : CT E l yX2_matesOf wsX2_matesOf rmX2_matesOf vI [.ref (eA E 29), .int x1, .int x2] (fX2_matesOf x1 x2 M) M := by
  refine ct_of (cc := cX2_matesOf) (nL := 6) (ret := (some .int)) (by decide +kernel) rfl (Nat.le_of_ble_eq_true rfl) ?_
  show ZZ E l RX2 cX2_matesOf 6 (some .int) wsX2_matesOf rmX2_matesOf vI (fX2_matesOf x1 x2 M) M [(0, .ref (eA E 29)), (1, .int x1), (2, .int x2)] 0 []
  unfold fX2_matesOf
  refine zz_iconst (npc := 1) 0 (by decide) dX2_matesOf_0 rfl ?_
  refine zz_istore_n (npc := 2) (lv1 := [(3, .int 0), (0, .ref (eA E 29)), (1, .int x1), (2, .int x2)]) rfl dX2_matesOf_1 rfl (by decide) rfl ?_
  refine zz_iload_n (npc := 3) 3 rfl rfl dX2_matesOf_2 rfl ?_
  refine zz_aload_n (npc := 4) 1 rfl rfl dX2_matesOf_3 rfl ?_
  refine zz_getR (npc := 7) (i := 1) (C0 := RX2) (T := TX2) (N := 3) (by decide) (by rfl) rfl (by decide) iX2_matesOf_2 (List.mem_of_getElem? (i := 1) rfl) rfl dX2_matesOf_4 rfl ?_
  refine zz_alen (npc := 8) 256 (by decide) (by rfl) (by decide) dX2_matesOf_7 rfl ?_
  refine zz_iconst (npc := 9) 1 (by decide) dX2_matesOf_8 rfl ?_
  refine zz_isub (npc := 10) dX2_matesOf_9 rfl ?_
  refine zz_iand (npc := 11) dX2_matesOf_10 rfl ?_
  refine zz_istoreB (npc := 13) (lv1 := fun v1 => [(4, .int v1), (3, .int 0), (0, .ref (eA E 29)), (1, .int x1), (2, .int x2)]) dX2_matesOf_11 rfl (by decide) (fun _ => rfl) (fun v1 => ?_)
  refine zz_iconst (npc := 14) 0 (by decide) dX2_matesOf_13 rfl ?_
  refine zz_istore (npc := 16) (lv1 := [(5, .int 0), (4, .int v1), (3, .int 0), (0, .ref (eA E 29)), (1, .int x1), (2, .int x2)]) dX2_matesOf_14 rfl (by decide) rfl ?_
  refine zz_sub (npc := 0) (lv1 := [(0, .ref (eA E 29)), (1, .int x1), (3, .int 0), (4, .int v1), (5, .int 0)]) [3, 4, 2, 1, 0] rfl ?_
  exact zX2_matesOf_L16 E l  fu x1 0 v1 0 M

abbrev rmX8_finding : Room := { frames := 0, cells := 0, slots := 0, locals := 0 }
theorem iX8_finding_8 : ∀ w ∈ u_ws RX8 TX8 29, w ∈ wsX8_finding := fun w h => List.mem_cons_of_mem _ (List.mem_append_right _ h)
noncomputable def fX8_finding  (x1 : Int32) (M : Mem) : Option (Int32 × Mem) := (ck (inb (((-1000001) - x1) + 1) 8) (ck (inb (((-1000001) - x1) + 1) 8) (wm (wr M 61 (ix (((-1000001) - x1) + 1)) ((M 61 (ix (((-1000001) - x1) + 1))) + 1)) fun M1 => (ck (inb 0 8) (ck (inb 0 8) (wm (wr M1 61 (ix 0) ((M1 61 (ix 0)) + 1)) fun M2 => (some (x1, M2))))))))
set_option maxHeartbeats 4000000 in
set_option maxRecDepth 100000 in
theorem mtX8_finding (E : EV) (l : Launch)   (x1 : Int32) (M : Mem) : CT E l yX8_finding wsX8_finding rmX8_finding vI [.ref (eA E 57), .int x1] (fX8_finding x1 M) M := by
  refine ct_of (cc := cX8_finding) (nL := 2) (ret := (some .int)) (by decide +kernel) rfl (Nat.le_of_ble_eq_true rfl) ?_
  show ZZ E l RX8 cX8_finding 2 (some .int) wsX8_finding rmX8_finding vI (fX8_finding x1 M) M [(0, .ref (eA E 57)), (1, .int x1)] 0 []
  unfold fX8_finding
  refine zz_aload_n (npc := 1) 0 rfl rfl dX8_finding_0 rfl ?_
  refine zz_getR (npc := 4) (i := 4) (C0 := RX8) (T := TX8) (N := 29) (by decide) (by rfl) rfl (by decide) iX8_finding_8 (List.mem_of_getElem? (i := 1) rfl) rfl dX8_finding_1 rfl ?_
  refine zz_ldc (npc := 6) (-1000001) (List.mem_of_getElem? (i := 2) rfl) dX8_finding_4 rfl ?_
  refine zz_iload_n (npc := 7) 1 rfl rfl dX8_finding_6 rfl ?_
  refine zz_isub (npc := 8) dX8_finding_7 rfl ?_
  refine zz_iconst (npc := 9) 1 (by decide) dX8_finding_8 rfl ?_
  refine zz_iadd (npc := 10) dX8_finding_9 rfl ?_
  refine zz_dup2 (npc := 11) rfl rfl dX8_finding_10 rfl ?_
  refine zz_iald (npc := 12) (by decide) (by rfl) dX8_finding_11 rfl ?_
  refine zz_iconst (npc := 13) 1 (by decide) dX8_finding_12 rfl ?_
  refine zz_iadd (npc := 14) dX8_finding_13 rfl ?_
  refine zz_iast (npc := 15) (by decide) (by rfl) dX8_finding_14 rfl (fun M1 => ?_)
  refine zz_aload_n (npc := 16) 0 rfl rfl dX8_finding_15 rfl ?_
  refine zz_getR (npc := 19) (i := 4) (C0 := RX8) (T := TX8) (N := 29) (by decide) (by rfl) rfl (by decide) iX8_finding_8 (List.mem_of_getElem? (i := 1) rfl) rfl dX8_finding_16 rfl ?_
  refine zz_iconst (npc := 20) 0 (by decide) dX8_finding_19 rfl ?_
  refine zz_dup2 (npc := 21) rfl rfl dX8_finding_20 rfl ?_
  refine zz_iald (npc := 22) (by decide) (by rfl) dX8_finding_21 rfl ?_
  refine zz_iconst (npc := 23) 1 (by decide) dX8_finding_22 rfl ?_
  refine zz_iadd (npc := 24) dX8_finding_23 rfl ?_
  refine zz_iast (npc := 25) (by decide) (by rfl) dX8_finding_24 rfl (fun M2 => ?_)
  refine zz_iload_n (npc := 26) 1 rfl rfl dX8_finding_25 rfl ?_
  exact zz_iret dX8_finding_26
abbrev rmX8_within : Room := { frames := 0, cells := 0, slots := 0, locals := 0 }
noncomputable def fX8_within  (x1 : Int32) (x2 : Int32) (x3 : Int32) (M : Mem) : Option (Int32 × Mem) := (if x1 < x2 then (ck (isb 0) (some (0, M))) else (if x3 < x1 then (ck (isb 0) (some (0, M))) else (ck (isb 1) (some (1, M)))))
set_option maxHeartbeats 4000000 in
set_option maxRecDepth 100000 in
theorem mtX8_within (E : EV) (l : Launch)   (x1 : Int32) (x2 : Int32) (x3 : Int32) (M : Mem) : CT E l yX8_within wsX8_within rmX8_within vI [.int x1, .int x2, .int x3] (fX8_within x1 x2 x3 M) M := by
  refine ct_of (cc := cX8_within) (nL := 3) (ret := (some .boolean)) (by decide +kernel) rfl (Nat.le_of_ble_eq_true rfl) ?_
  show ZZ E l RX8 cX8_within 3 (some .boolean) wsX8_within rmX8_within vI (fX8_within x1 x2 x3 M) M [(0, .int x1), (1, .int x2), (2, .int x3)] 0 []
  unfold fX8_within
  refine zz_iload_n (npc := 1) 0 rfl rfl dX8_within_0 rfl ?_
  refine zz_iload_n (npc := 2) 1 rfl rfl dX8_within_1 rfl ?_
  refine zz_icmp_lt (tgt := 14) (npc := 5) dX8_within_2 (by decide) rfl ?_ ?_
  · refine zz_iconst (npc := 15) 0 (by decide) dX8_within_14 rfl ?_
    exact zz_zret dX8_within_15
  · refine zz_iload_n (npc := 6) 0 rfl rfl dX8_within_5 rfl ?_
    refine zz_iload_n (npc := 7) 2 rfl rfl dX8_within_6 rfl ?_
    refine zz_icmp_gt (tgt := 14) (npc := 10) dX8_within_7 (by decide) rfl ?_ ?_
    · refine zz_iconst (npc := 15) 0 (by decide) dX8_within_14 rfl ?_
      exact zz_zret dX8_within_15
    · refine zz_iconst (npc := 11) 1 (by decide) dX8_within_10 rfl ?_
      refine zz_goto (npc := 0) (tgt := 15) dX8_within_11 (by decide) ?_
      exact zz_zret dX8_within_15
abbrev rmX8_become : Room := { frames := 0, cells := 0, slots := 0, locals := 0 }
theorem iX8_become_8 : ∀ w ∈ u_ws RX8 TX8 29, w ∈ wsX8_become := fun w h => List.mem_cons_of_mem _ (List.mem_append_right _ h)
noncomputable def fX8_become  (x1 : Int32) (x2 : Int32) (M : Mem) : Option (Int32 × Mem) := (ck (inb x1 56) (bv (M 58 (ix x1)) fun v1 => (ck (inb x1 56) (wm (wr M 58 (ix x1) x2) fun M2 => (some (v1, M2))))))
set_option maxHeartbeats 4000000 in
set_option maxRecDepth 100000 in
theorem mtX8_become (E : EV) (l : Launch)   (x1 : Int32) (x2 : Int32) (M : Mem) : CT E l yX8_become wsX8_become rmX8_become vI [.ref (eA E 57), .int x1, .int x2] (fX8_become x1 x2 M) M := by
  refine ct_of (cc := cX8_become) (nL := 4) (ret := (some .int)) (by decide +kernel) rfl (Nat.le_of_ble_eq_true rfl) ?_
  show ZZ E l RX8 cX8_become 4 (some .int) wsX8_become rmX8_become vI (fX8_become x1 x2 M) M [(0, .ref (eA E 57)), (1, .int x1), (2, .int x2)] 0 []
  unfold fX8_become
  refine zz_aload_n (npc := 1) 0 rfl rfl dX8_become_0 rfl ?_
  refine zz_getR (npc := 4) (i := 0) (C0 := RX8) (T := TX8) (N := 29) (by decide) (by rfl) rfl (by decide) iX8_become_8 (List.mem_of_getElem? (i := 1) rfl) rfl dX8_become_1 rfl ?_
  refine zz_iload_n (npc := 5) 1 rfl rfl dX8_become_4 rfl ?_
  refine zz_iald (npc := 6) (by decide) (by rfl) dX8_become_5 rfl ?_
  refine zz_istore_nB (npc := 7) (lv1 := fun v1 => [(3, .int v1), (0, .ref (eA E 57)), (1, .int x1), (2, .int x2)]) rfl dX8_become_6 rfl (by decide) (fun _ => rfl) (fun v1 => ?_)
  refine zz_aload_n (npc := 8) 1 rfl rfl dX8_become_7 rfl ?_
  refine zz_getR (npc := 11) (i := 0) (C0 := RX8) (T := TX8) (N := 29) (by decide) (by rfl) rfl (by decide) iX8_become_8 (List.mem_of_getElem? (i := 1) rfl) rfl dX8_become_8 rfl ?_
  refine zz_iload_n (npc := 12) 2 rfl rfl dX8_become_11 rfl ?_
  refine zz_iload_n (npc := 13) 3 rfl rfl dX8_become_12 rfl ?_
  refine zz_iast (npc := 14) (by decide) (by rfl) dX8_become_13 rfl (fun M2 => ?_)
  refine zz_iload_n (npc := 15) 0 rfl rfl dX8_become_14 rfl ?_
  exact zz_iret dX8_become_15
abbrev rmX8_copyRow : Room := { frames := 0, cells := 0, slots := 0, locals := 0 }
noncomputable def fX8_copyRow_L2 (d1 : Nat) (d2 : Nat)  : Nat → Int32 → Mem → Option (Unit × Mem)
  | 0, _, _ => none
  | n + 1, y2, M => (if 56 ≤ y2 then (some ((), M)) else (ck (inb y2 56) (ck (inb y2 56) (wm (wr M d2 (ix y2) (M d1 (ix y2))) fun M1 => (bv (y2 + 1) fun v2 => (fX8_copyRow_L2 d1 d2 n v2 M1))))))
set_option maxHeartbeats 4000000 in
set_option maxRecDepth 100000 in
theorem zX8_copyRow_L2 (E : EV) (l : Launch) (d1 : Nat) (d2 : Nat) (hd1 : d1 < NC ∧ lay d1 = (1, 56, [])) (hd2 : d2 < NC ∧ lay d2 = (1, 56, []))   : ∀ (n : Nat) (y2 : Int32) (M : Mem), ZZ E l RX8 cX8_copyRow 3 none wsX8_copyRow rmX8_copyRow vV (fX8_copyRow_L2 d1 d2 n y2 M) M [(0, .ref (eA E d1)), (1, .ref (eA E d2)), (2, .int y2)] 2 [] := by
  intro n
  induction n with
  | zero => intros; exact zz_none
  | succ n ih =>
    intro y2 M
    rw [fX8_copyRow_L2]
    refine zz_iload_n (npc := 3) 2 rfl rfl dX8_copyRow_2 rfl ?_
    refine zz_bipush (npc := 5) 56 (by decide) dX8_copyRow_3 rfl ?_
    refine zz_icmp_ge (tgt := 20) (npc := 8) dX8_copyRow_5 (by decide) rfl ?_ ?_
    · exact zz_vret dX8_copyRow_20
    · refine zz_aload_n (npc := 9) 1 rfl rfl dX8_copyRow_8 rfl ?_
      refine zz_iload_n (npc := 10) 2 rfl rfl dX8_copyRow_9 rfl ?_
      refine zz_aload_n (npc := 11) 0 rfl rfl dX8_copyRow_10 rfl ?_
      refine zz_iload_n (npc := 12) 2 rfl rfl dX8_copyRow_11 rfl ?_
      refine zz_iald (npc := 13) hd1.1 hd1.2 dX8_copyRow_12 rfl ?_
      refine zz_iast (npc := 14) hd2.1 hd2.2 dX8_copyRow_13 rfl (fun M1 => ?_)
      refine zz_iincB (npc := 17) (y2 + 1) (lv1 := fun v2 => [(2, .int v2), (0, .ref (eA E d1)), (1, .ref (eA E d2))]) dX8_copyRow_14 rfl 2 rfl rfl (by decide) (fun _ => rfl) (fun v2 => ?_)
      refine zz_goto (npc := 0) (tgt := 2) dX8_copyRow_17 (by decide) ?_
      refine zz_sub (npc := 0) (lv1 := [(0, .ref (eA E d1)), (1, .ref (eA E d2)), (2, .int v2)]) [1, 2, 0] rfl ?_
      exact ih v2 M1
noncomputable def fX8_copyRow (d1 : Nat) (d2 : Nat)  (M : Mem) : Option (Unit × Mem) := (fX8_copyRow_L2 d1 d2 fu 0 M)
set_option maxHeartbeats 4000000 in
set_option maxRecDepth 100000 in
theorem mtX8_copyRow (E : EV) (l : Launch) (d1 : Nat) (d2 : Nat) (hd1 : d1 < NC ∧ lay d1 = (1, 56, [])) (hd2 : d2 < NC ∧ lay d2 = (1, 56, []))  (M : Mem) : CT E l yX8_copyRow wsX8_copyRow rmX8_copyRow vV [.ref (eA E d1), .ref (eA E d2)] (fX8_copyRow d1 d2 M) M := by
  refine ct_of (cc := cX8_copyRow) (nL := 3) (ret := none) (by decide +kernel) rfl (Nat.le_of_ble_eq_true rfl) ?_
  show ZZ E l RX8 cX8_copyRow 3 none wsX8_copyRow rmX8_copyRow vV (fX8_copyRow d1 d2 M) M [(0, .ref (eA E d1)), (1, .ref (eA E d2))] 0 []
  unfold fX8_copyRow
  refine zz_iconst (npc := 1) 0 (by decide) dX8_copyRow_0 rfl ?_
  refine zz_istore_n (npc := 2) (lv1 := [(2, .int 0), (0, .ref (eA E d1)), (1, .ref (eA E d2))]) rfl dX8_copyRow_1 rfl (by decide) rfl ?_
  refine zz_sub (npc := 0) (lv1 := [(0, .ref (eA E d1)), (1, .ref (eA E d2)), (2, .int 0)]) [1, 2, 0] rfl ?_
  exact zX8_copyRow_L2 E l d1 d2 hd1 hd2 fu 0 M
abbrev rmX8_putBack : Room := { frames := 1, cells := 0, slots := 0, locals := 22 }
theorem iX8_putBack_8 : ∀ w ∈ u_ws RX8 TX8 29, w ∈ wsX8_putBack := fun w h => List.mem_cons_of_mem _ (List.mem_append_right _ h)
noncomputable def fX8_putBack  (x1 : Int32) (M : Mem) : Option (Int32 × Mem) := (bd (fX8_copyRow 60 58 M) fun _ M1 => (some (x1, M1)))
set_option maxHeartbeats 4000000 in
set_option maxRecDepth 100000 in
theorem mtX8_putBack (E : EV) (l : Launch)   (x1 : Int32) (M : Mem) : CT E l yX8_putBack wsX8_putBack rmX8_putBack vI [.ref (eA E 57), .int x1] (fX8_putBack x1 M) M := by
  refine ct_of (cc := cX8_putBack) (nL := 2) (ret := (some .int)) (by decide +kernel) rfl (Nat.le_of_ble_eq_true rfl) ?_
  show ZZ E l RX8 cX8_putBack 2 (some .int) wsX8_putBack rmX8_putBack vI (fX8_putBack x1 M) M [(0, .ref (eA E 57)), (1, .int x1)] 0 []
  unfold fX8_putBack
  refine zz_aload_n (npc := 1) 0 rfl rfl dX8_putBack_0 rfl ?_
  refine zz_getR (npc := 4) (i := 2) (C0 := RX8) (T := TX8) (N := 29) (by decide) (by rfl) rfl (by decide) iX8_putBack_8 (List.mem_of_getElem? (i := 1) rfl) rfl dX8_putBack_1 rfl ?_
  refine zz_aload_n (npc := 5) 0 rfl rfl dX8_putBack_4 rfl ?_
  refine zz_getR (npc := 8) (i := 0) (C0 := RX8) (T := TX8) (N := 29) (by decide) (by rfl) rfl (by decide) iX8_putBack_8 (List.mem_of_getElem? (i := 2) rfl) rfl dX8_putBack_5 rfl ?_
  refine zz_callSv (npc := 11) (n := 2) (As := [.ref (eA E 60), .ref (eA E 58)]) gX8_putBack_X8_copyRow rfl rfl rfl (by decide +kernel) ⟨Nat.le_of_ble_eq_true rfl, Nat.le_of_ble_eq_true rfl⟩ rfl rfl (Nat.le_of_ble_eq_true rfl) (mtX8_copyRow E l 60 58 ⟨(by decide), (by rfl)⟩ ⟨(by decide), (by rfl)⟩  M) dX8_putBack_8 rfl (fun _ M1 _ => ?_)
  refine zz_iload_n (npc := 12) 1 rfl rfl dX8_putBack_11 rfl ?_
  exact zz_iret dX8_putBack_12
abbrev rmX8_has : Room := { frames := 0, cells := 0, slots := 0, locals := 0 }
noncomputable def fX8_has  (x1 : Int32) (x2 : Int32) (M : Mem) : Option (Int32 × Mem) := (if ((shr x1 x2) &&& 1) = 1 then (ck (isb 1) (some (1, M))) else (ck (isb 0) (some (0, M))))
set_option maxHeartbeats 4000000 in
set_option maxRecDepth 100000 in
theorem mtX8_has (E : EV) (l : Launch)   (x1 : Int32) (x2 : Int32) (M : Mem) : CT E l yX8_has wsX8_has rmX8_has vI [.int x1, .int x2] (fX8_has x1 x2 M) M := by
  refine ct_of (cc := cX8_has) (nL := 2) (ret := (some .boolean)) (by decide +kernel) rfl (Nat.le_of_ble_eq_true rfl) ?_
  show ZZ E l RX8 cX8_has 2 (some .boolean) wsX8_has rmX8_has vI (fX8_has x1 x2 M) M [(0, .int x1), (1, .int x2)] 0 []
  unfold fX8_has
  refine zz_iload_n (npc := 1) 0 rfl rfl dX8_has_0 rfl ?_
  refine zz_iload_n (npc := 2) 1 rfl rfl dX8_has_1 rfl ?_
  refine zz_ishr (npc := 3) dX8_has_2 rfl ?_
  refine zz_iconst (npc := 4) 1 (by decide) dX8_has_3 rfl ?_
  refine zz_iand (npc := 5) dX8_has_4 rfl ?_
  refine zz_iconst (npc := 6) 1 (by decide) dX8_has_5 rfl ?_
  refine zz_icmp_ne (tgt := 13) (npc := 9) dX8_has_6 (by decide) rfl ?_ ?_
  · refine zz_iconst (npc := 14) 0 (by decide) dX8_has_13 rfl ?_
    exact zz_zret dX8_has_14
  · refine zz_iconst (npc := 10) 1 (by decide) dX8_has_9 rfl ?_
    refine zz_goto (npc := 0) (tgt := 14) dX8_has_10 (by decide) ?_
    exact zz_zret dX8_has_14
abbrev rmX8_bits : Room := { frames := 0, cells := 0, slots := 0, locals := 0 }
noncomputable def fX8_bits_L4   : Nat → Int32 → Int32 → Mem → Option (Int32 × Mem)
  | 0, _, _, _ => none
  | n + 1, y1, y2, M => (if y2 = 0 then (some (y1, M)) else (bv (y1 + 1) fun v1 => (bv (y2 &&& (y2 - 1)) fun v2 => (fX8_bits_L4  n v1 v2 M))))
set_option maxHeartbeats 4000000 in
set_option maxRecDepth 100000 in
theorem zX8_bits_L4 (E : EV) (l : Launch)     : ∀ (n : Nat) (y1 : Int32) (y2 : Int32) (M : Mem), ZZ E l RX8 cX8_bits 3 (some .int) wsX8_bits rmX8_bits vI (fX8_bits_L4 n y1 y2 M) M [(1, .int y1), (2, .int y2)] 4 [] := by
  intro n
  induction n with
  | zero => intros; exact zz_none
  | succ n ih =>
    intro y1 y2 M
    rw [fX8_bits_L4]
    refine zz_iload_n (npc := 5) 1 rfl rfl dX8_bits_4 rfl ?_
    refine zz_if_eq (tgt := 20) (npc := 8) dX8_bits_5 (by decide) rfl ?_ ?_
    · refine zz_iload_n (npc := 21) 0 rfl rfl dX8_bits_20 rfl ?_
      exact zz_iret dX8_bits_21
    · refine zz_iincB (npc := 11) (y1 + 1) (lv1 := fun v1 => [(1, .int v1), (2, .int y2)]) dX8_bits_8 rfl 0 rfl rfl (by decide) (fun _ => rfl) (fun v1 => ?_)
      refine zz_iload_n (npc := 12) 1 rfl rfl dX8_bits_11 rfl ?_
      refine zz_iload_n (npc := 13) 1 rfl rfl dX8_bits_12 rfl ?_
      refine zz_iconst (npc := 14) 1 (by decide) dX8_bits_13 rfl ?_
      refine zz_isub (npc := 15) dX8_bits_14 rfl ?_
      refine zz_iand (npc := 16) dX8_bits_15 rfl ?_
      refine zz_istore_nB (npc := 17) (lv1 := fun v2 => [(2, .int v2), (1, .int v1)]) rfl dX8_bits_16 rfl (by decide) (fun _ => rfl) (fun v2 => ?_)
      refine zz_goto (npc := 0) (tgt := 4) dX8_bits_17 (by decide) ?_
      refine zz_sub (npc := 0) (lv1 := [(1, .int v1), (2, .int v2)]) [1, 0] rfl ?_
      exact ih v1 v2 M
noncomputable def fX8_bits  (x1 : Int32) (M : Mem) : Option (Int32 × Mem) := (fX8_bits_L4  fu 0 x1 M)
set_option maxHeartbeats 4000000 in
set_option maxRecDepth 100000 in
theorem mtX8_bits (E : EV) (l : Launch)   (x1 : Int32) (M : Mem) : CT E l yX8_bits wsX8_bits rmX8_bits vI [.int x1] (fX8_bits x1 M) M := by
  refine ct_of (cc := cX8_bits) (nL := 3) (ret := (some .int)) (by decide +kernel) rfl (Nat.le_of_ble_eq_true rfl) ?_
  show ZZ E l RX8 cX8_bits 3 (some .int) wsX8_bits rmX8_bits vI (fX8_bits x1 M) M [(0, .int x1)] 0 []
  unfold fX8_bits
  refine zz_iconst (npc := 1) 0 (by decide) dX8_bits_0 rfl ?_
  refine zz_istore_n (npc := 2) (lv1 := [(1, .int 0), (0, .int x1)]) rfl dX8_bits_1 rfl (by decide) rfl ?_
  refine zz_iload_n (npc := 3) 1 rfl rfl dX8_bits_2 rfl ?_
  refine zz_istore_n (npc := 4) (lv1 := [(2, .int x1), (1, .int 0), (0, .int x1)]) rfl dX8_bits_3 rfl (by decide) rfl ?_
  refine zz_sub (npc := 0) (lv1 := [(1, .int 0), (2, .int x1)]) [1, 0] rfl ?_
  exact zX8_bits_L4 E l  fu 0 x1 M
abbrev rmX8_isPerson : Room := { frames := 1, cells := 0, slots := 0, locals := 22 }
theorem iX8_isPerson_8 : ∀ w ∈ u_ws RX8 TX8 29, w ∈ wsX8_isPerson := fun w h => List.mem_cons_of_mem _ (List.mem_append_right _ h)
noncomputable def fX8_isPerson  (x1 : Int32) (M : Mem) : Option (Int32 × Mem) := (ck (inb 4 56) (bd (fX8_within x1 0 ((M 58 (ix 4)) - 1) M) fun r2 M1 => (ck (isb r2) (some (r2, M1)))))
set_option maxHeartbeats 4000000 in
set_option maxRecDepth 100000 in
theorem mtX8_isPerson (E : EV) (l : Launch)   (x1 : Int32) (M : Mem) : CT E l yX8_isPerson wsX8_isPerson rmX8_isPerson vI [.ref (eA E 57), .int x1] (fX8_isPerson x1 M) M := by
  refine ct_of (cc := cX8_isPerson) (nL := 2) (ret := (some .boolean)) (by decide +kernel) rfl (Nat.le_of_ble_eq_true rfl) ?_
  show ZZ E l RX8 cX8_isPerson 2 (some .boolean) wsX8_isPerson rmX8_isPerson vI (fX8_isPerson x1 M) M [(0, .ref (eA E 57)), (1, .int x1)] 0 []
  unfold fX8_isPerson
  refine zz_iload_n (npc := 1) 1 rfl rfl dX8_isPerson_0 rfl ?_
  refine zz_iconst (npc := 2) 0 (by decide) dX8_isPerson_1 rfl ?_
  refine zz_aload_n (npc := 3) 0 rfl rfl dX8_isPerson_2 rfl ?_
  refine zz_getR (npc := 6) (i := 0) (C0 := RX8) (T := TX8) (N := 29) (by decide) (by rfl) rfl (by decide) iX8_isPerson_8 (List.mem_of_getElem? (i := 1) rfl) rfl dX8_isPerson_3 rfl ?_
  refine zz_iconst (npc := 7) 4 (by decide) dX8_isPerson_6 rfl ?_
  refine zz_iald (npc := 8) (by decide) (by rfl) dX8_isPerson_7 rfl ?_
  refine zz_iconst (npc := 9) 1 (by decide) dX8_isPerson_8 rfl ?_
  refine zz_isub (npc := 10) dX8_isPerson_9 rfl ?_
  refine zz_callSi (npc := 13) (n := 3) (As := [.int x1, .int 0, .int ((M 58 (ix 4)) - 1)]) gX8_isPerson_X8_within rfl rfl rfl (by decide +kernel) ⟨Nat.le_of_ble_eq_true rfl, Nat.le_of_ble_eq_true rfl⟩ rfl rfl (Nat.le_of_ble_eq_true rfl) (mtX8_within E l  x1 0 ((M 58 (ix 4)) - 1) M) dX8_isPerson_10 rfl (fun r2 M1 _ => ?_)
  exact zz_zret dX8_isPerson_13
abbrev rmX8_isKind : Room := { frames := 1, cells := 0, slots := 0, locals := 22 }
noncomputable def fX8_isKind  (x1 : Int32) (M : Mem) : Option (Int32 × Mem) := (bd (fX8_within x1 0 6 M) fun r2 M1 => (ck (isb r2) (some (r2, M1))))
set_option maxHeartbeats 4000000 in
set_option maxRecDepth 100000 in
theorem mtX8_isKind (E : EV) (l : Launch)   (x1 : Int32) (M : Mem) : CT E l yX8_isKind wsX8_isKind rmX8_isKind vI [.int x1] (fX8_isKind x1 M) M := by
  refine ct_of (cc := cX8_isKind) (nL := 1) (ret := (some .boolean)) (by decide +kernel) rfl (Nat.le_of_ble_eq_true rfl) ?_
  show ZZ E l RX8 cX8_isKind 1 (some .boolean) wsX8_isKind rmX8_isKind vI (fX8_isKind x1 M) M [(0, .int x1)] 0 []
  unfold fX8_isKind
  refine zz_iload_n (npc := 1) 0 rfl rfl dX8_isKind_0 rfl ?_
  refine zz_iconst (npc := 2) 0 (by decide) dX8_isKind_1 rfl ?_
  refine zz_bipush (npc := 4) 6 (by decide) dX8_isKind_2 rfl ?_
  refine zz_callSi (npc := 7) (n := 3) (As := [.int x1, .int 0, .int 6]) gX8_isKind_X8_within rfl rfl rfl (by decide +kernel) ⟨Nat.le_of_ble_eq_true rfl, Nat.le_of_ble_eq_true rfl⟩ rfl rfl (Nat.le_of_ble_eq_true rfl) (mtX8_within E l  x1 0 6 M) dX8_isKind_4 rfl (fun r2 M1 _ => ?_)
  exact zz_zret dX8_isKind_7
abbrev rmX8_isHours : Room := { frames := 1, cells := 0, slots := 0, locals := 22 }
noncomputable def fX8_isHours  (x1 : Int32) (M : Mem) : Option (Int32 × Mem) := (bd (fX8_within x1 0 65535 M) fun r2 M1 => (ck (isb r2) (some (r2, M1))))
set_option maxHeartbeats 4000000 in
set_option maxRecDepth 100000 in
theorem mtX8_isHours (E : EV) (l : Launch)   (x1 : Int32) (M : Mem) : CT E l yX8_isHours wsX8_isHours rmX8_isHours vI [.int x1] (fX8_isHours x1 M) M := by
  refine ct_of (cc := cX8_isHours) (nL := 1) (ret := (some .boolean)) (by decide +kernel) rfl (Nat.le_of_ble_eq_true rfl) ?_
  show ZZ E l RX8 cX8_isHours 1 (some .boolean) wsX8_isHours rmX8_isHours vI (fX8_isHours x1 M) M [(0, .int x1)] 0 []
  unfold fX8_isHours
  refine zz_iload_n (npc := 1) 0 rfl rfl dX8_isHours_0 rfl ?_
  refine zz_iconst (npc := 2) 0 (by decide) dX8_isHours_1 rfl ?_
  refine zz_ldc (npc := 4) 65535 (List.mem_of_getElem? (i := 1) rfl) dX8_isHours_2 rfl ?_
  refine zz_callSi (npc := 7) (n := 3) (As := [.int x1, .int 0, .int 65535]) gX8_isHours_X8_within rfl rfl rfl (by decide +kernel) ⟨Nat.le_of_ble_eq_true rfl, Nat.le_of_ble_eq_true rfl⟩ rfl rfl (Nat.le_of_ble_eq_true rfl) (mtX8_within E l  x1 0 65535 M) dX8_isHours_4 rfl (fun r2 M1 _ => ?_)
  exact zz_zret dX8_isHours_7
abbrev rmX8_at : Room := { frames := 0, cells := 0, slots := 0, locals := 0 }
noncomputable def fX8_at  (x1 : Int32) (x2 : Int32) (M : Mem) : Option (Int32 × Mem) := (some ((16 + (5 * x1)) + x2, M))
set_option maxHeartbeats 4000000 in
set_option maxRecDepth 100000 in
theorem mtX8_at (E : EV) (l : Launch)   (x1 : Int32) (x2 : Int32) (M : Mem) : CT E l yX8_at wsX8_at rmX8_at vI [.int x1, .int x2] (fX8_at x1 x2 M) M := by
  refine ct_of (cc := cX8_at) (nL := 2) (ret := (some .int)) (by decide +kernel) rfl (Nat.le_of_ble_eq_true rfl) ?_
  show ZZ E l RX8 cX8_at 2 (some .int) wsX8_at rmX8_at vI (fX8_at x1 x2 M) M [(0, .int x1), (1, .int x2)] 0 []
  unfold fX8_at
  refine zz_bipush (npc := 2) 16 (by decide) dX8_at_0 rfl ?_
  refine zz_iconst (npc := 3) 5 (by decide) dX8_at_2 rfl ?_
  refine zz_iload_n (npc := 4) 0 rfl rfl dX8_at_3 rfl ?_
  refine zz_imul (npc := 5) dX8_at_4 rfl ?_
  refine zz_iadd (npc := 6) dX8_at_5 rfl ?_
  refine zz_iload_n (npc := 7) 1 rfl rfl dX8_at_6 rfl ?_
  refine zz_iadd (npc := 8) dX8_at_7 rfl ?_
  exact zz_iret dX8_at_8
abbrev rmX8_personIs : Room := { frames := 1, cells := 0, slots := 0, locals := 21 }
theorem iX8_personIs_8 : ∀ w ∈ u_ws RX8 TX8 29, w ∈ wsX8_personIs := fun w h => List.mem_cons_of_mem _ (List.mem_append_right _ h)
noncomputable def fX8_personIs  (x1 : Int32) (x2 : Int32) (M : Mem) : Option (Int32 × Mem) := (bd (fX8_at x1 x2 M) fun r2 M1 => (ck (inb r2 56) (some (M1 58 (ix r2), M1))))
set_option maxHeartbeats 4000000 in
set_option maxRecDepth 100000 in
theorem mtX8_personIs (E : EV) (l : Launch)   (x1 : Int32) (x2 : Int32) (M : Mem) : CT E l yX8_personIs wsX8_personIs rmX8_personIs vI [.ref (eA E 57), .int x1, .int x2] (fX8_personIs x1 x2 M) M := by
  refine ct_of (cc := cX8_personIs) (nL := 3) (ret := (some .int)) (by decide +kernel) rfl (Nat.le_of_ble_eq_true rfl) ?_
  show ZZ E l RX8 cX8_personIs 3 (some .int) wsX8_personIs rmX8_personIs vI (fX8_personIs x1 x2 M) M [(0, .ref (eA E 57)), (1, .int x1), (2, .int x2)] 0 []
  unfold fX8_personIs
  refine zz_aload_n (npc := 1) 0 rfl rfl dX8_personIs_0 rfl ?_
  refine zz_getR (npc := 4) (i := 0) (C0 := RX8) (T := TX8) (N := 29) (by decide) (by rfl) rfl (by decide) iX8_personIs_8 (List.mem_of_getElem? (i := 1) rfl) rfl dX8_personIs_1 rfl ?_
  refine zz_iload_n (npc := 5) 1 rfl rfl dX8_personIs_4 rfl ?_
  refine zz_iload_n (npc := 6) 2 rfl rfl dX8_personIs_5 rfl ?_
  refine zz_callSi (npc := 9) (n := 2) (As := [.int x1, .int x2]) gX8_personIs_X8_at rfl rfl rfl (by decide +kernel) ⟨Nat.le_of_ble_eq_true rfl, Nat.le_of_ble_eq_true rfl⟩ rfl rfl (Nat.le_of_ble_eq_true rfl) (mtX8_at E l  x1 x2 M) dX8_personIs_6 rfl (fun r2 M1 _ => ?_)
  refine zz_iald (npc := 10) (by decide) (by rfl) dX8_personIs_9 rfl ?_
  exact zz_iret dX8_personIs_10
abbrev rmX8_comes : Room := { frames := 1, cells := 0, slots := 0, locals := 21 }
theorem iX8_comes_8 : ∀ w ∈ u_ws RX8 TX8 29, w ∈ wsX8_comes := fun w h => List.mem_cons_of_mem _ (List.mem_append_right _ h)
noncomputable def fX8_comes  (x1 : Int32) (x2 : Int32) (x3 : Int32) (x4 : Int32) (M : Mem) : Option (Int32 × Mem) := (ck (inb 4 56) (bv (M 58 (ix 4)) fun v1 => (bd (fX8_at v1 0 M) fun r3 M2 => (ck (inb r3 56) (wm (wr M2 58 (ix r3) x1) fun M4 => (bd (fX8_at v1 1 M4) fun r6 M5 => (ck (inb r6 56) (wm (wr M5 58 (ix r6) x2) fun M7 => (bd (fX8_at v1 2 M7) fun r9 M8 => (ck (inb r9 56) (wm (wr M8 58 (ix r9) x3) fun M10 => (bd (fX8_at v1 3 M10) fun r12 M11 => (ck (inb r12 56) (wm (wr M11 58 (ix r12) x4) fun M13 => (bd (fX8_at v1 4 M13) fun r15 M14 => (ck (inb r15 56) (wm (wr M14 58 (ix r15) (-1)) fun M16 => (ck (inb 4 56) (ck (inb 4 56) (wm (wr M16 58 (ix 4) ((M16 58 (ix 4)) + 1)) fun M17 => (some (v1, M17))))))))))))))))))))))
set_option maxHeartbeats 4000000 in
set_option maxRecDepth 100000 in
theorem mtX8_comes (E : EV) (l : Launch)   (x1 : Int32) (x2 : Int32) (x3 : Int32) (x4 : Int32) (M : Mem) : CT E l yX8_comes wsX8_comes rmX8_comes vI [.ref (eA E 57), .int x1, .int x2, .int x3, .int x4] (fX8_comes x1 x2 x3 x4 M) M := by
  refine ct_of (cc := cX8_comes) (nL := 6) (ret := (some .int)) (by decide +kernel) rfl (Nat.le_of_ble_eq_true rfl) ?_
  show ZZ E l RX8 cX8_comes 6 (some .int) wsX8_comes rmX8_comes vI (fX8_comes x1 x2 x3 x4 M) M [(0, .ref (eA E 57)), (1, .int x1), (2, .int x2), (3, .int x3), (4, .int x4)] 0 []
  unfold fX8_comes
  refine zz_aload_n (npc := 1) 0 rfl rfl dX8_comes_0 rfl ?_
  refine zz_getR (npc := 4) (i := 0) (C0 := RX8) (T := TX8) (N := 29) (by decide) (by rfl) rfl (by decide) iX8_comes_8 (List.mem_of_getElem? (i := 1) rfl) rfl dX8_comes_1 rfl ?_
  refine zz_iconst (npc := 5) 4 (by decide) dX8_comes_4 rfl ?_
  refine zz_iald (npc := 6) (by decide) (by rfl) dX8_comes_5 rfl ?_
  refine zz_istoreB (npc := 8) (lv1 := fun v1 => [(5, .int v1), (0, .ref (eA E 57)), (1, .int x1), (2, .int x2), (3, .int x3), (4, .int x4)]) dX8_comes_6 rfl (by decide) (fun _ => rfl) (fun v1 => ?_)
  refine zz_aload_n (npc := 9) 1 rfl rfl dX8_comes_8 rfl ?_
  refine zz_getR (npc := 12) (i := 0) (C0 := RX8) (T := TX8) (N := 29) (by decide) (by rfl) rfl (by decide) iX8_comes_8 (List.mem_of_getElem? (i := 1) rfl) rfl dX8_comes_9 rfl ?_
  refine zz_iload (npc := 14) 0 rfl dX8_comes_12 rfl ?_
  refine zz_iconst (npc := 15) 0 (by decide) dX8_comes_14 rfl ?_
  refine zz_callSi (npc := 18) (n := 2) (As := [.int v1, .int 0]) gX8_comes_X8_at rfl rfl rfl (by decide +kernel) ⟨Nat.le_of_ble_eq_true rfl, Nat.le_of_ble_eq_true rfl⟩ rfl rfl (Nat.le_of_ble_eq_true rfl) (mtX8_at E l  v1 0 M) dX8_comes_15 rfl (fun r3 M2 _ => ?_)
  refine zz_iload_n (npc := 19) 2 rfl rfl dX8_comes_18 rfl ?_
  refine zz_iast (npc := 20) (by decide) (by rfl) dX8_comes_19 rfl (fun M4 => ?_)
  refine zz_aload_n (npc := 21) 1 rfl rfl dX8_comes_20 rfl ?_
  refine zz_getR (npc := 24) (i := 0) (C0 := RX8) (T := TX8) (N := 29) (by decide) (by rfl) rfl (by decide) iX8_comes_8 (List.mem_of_getElem? (i := 1) rfl) rfl dX8_comes_21 rfl ?_
  refine zz_iload (npc := 26) 0 rfl dX8_comes_24 rfl ?_
  refine zz_iconst (npc := 27) 1 (by decide) dX8_comes_26 rfl ?_
  refine zz_callSi (npc := 30) (n := 2) (As := [.int v1, .int 1]) gX8_comes_X8_at rfl rfl rfl (by decide +kernel) ⟨Nat.le_of_ble_eq_true rfl, Nat.le_of_ble_eq_true rfl⟩ rfl rfl (Nat.le_of_ble_eq_true rfl) (mtX8_at E l  v1 1 M4) dX8_comes_27 rfl (fun r6 M5 _ => ?_)
  refine zz_iload_n (npc := 31) 3 rfl rfl dX8_comes_30 rfl ?_
  refine zz_iast (npc := 32) (by decide) (by rfl) dX8_comes_31 rfl (fun M7 => ?_)
  refine zz_aload_n (npc := 33) 1 rfl rfl dX8_comes_32 rfl ?_
  refine zz_getR (npc := 36) (i := 0) (C0 := RX8) (T := TX8) (N := 29) (by decide) (by rfl) rfl (by decide) iX8_comes_8 (List.mem_of_getElem? (i := 1) rfl) rfl dX8_comes_33 rfl ?_
  refine zz_iload (npc := 38) 0 rfl dX8_comes_36 rfl ?_
  refine zz_iconst (npc := 39) 2 (by decide) dX8_comes_38 rfl ?_
  refine zz_callSi (npc := 42) (n := 2) (As := [.int v1, .int 2]) gX8_comes_X8_at rfl rfl rfl (by decide +kernel) ⟨Nat.le_of_ble_eq_true rfl, Nat.le_of_ble_eq_true rfl⟩ rfl rfl (Nat.le_of_ble_eq_true rfl) (mtX8_at E l  v1 2 M7) dX8_comes_39 rfl (fun r9 M8 _ => ?_)
  refine zz_iload_n (npc := 43) 4 rfl rfl dX8_comes_42 rfl ?_
  refine zz_iast (npc := 44) (by decide) (by rfl) dX8_comes_43 rfl (fun M10 => ?_)
  refine zz_aload_n (npc := 45) 1 rfl rfl dX8_comes_44 rfl ?_
  refine zz_getR (npc := 48) (i := 0) (C0 := RX8) (T := TX8) (N := 29) (by decide) (by rfl) rfl (by decide) iX8_comes_8 (List.mem_of_getElem? (i := 1) rfl) rfl dX8_comes_45 rfl ?_
  refine zz_iload (npc := 50) 0 rfl dX8_comes_48 rfl ?_
  refine zz_iconst (npc := 51) 3 (by decide) dX8_comes_50 rfl ?_
  refine zz_callSi (npc := 54) (n := 2) (As := [.int v1, .int 3]) gX8_comes_X8_at rfl rfl rfl (by decide +kernel) ⟨Nat.le_of_ble_eq_true rfl, Nat.le_of_ble_eq_true rfl⟩ rfl rfl (Nat.le_of_ble_eq_true rfl) (mtX8_at E l  v1 3 M10) dX8_comes_51 rfl (fun r12 M11 _ => ?_)
  refine zz_iload (npc := 56) 5 rfl dX8_comes_54 rfl ?_
  refine zz_iast (npc := 57) (by decide) (by rfl) dX8_comes_56 rfl (fun M13 => ?_)
  refine zz_aload_n (npc := 58) 1 rfl rfl dX8_comes_57 rfl ?_
  refine zz_getR (npc := 61) (i := 0) (C0 := RX8) (T := TX8) (N := 29) (by decide) (by rfl) rfl (by decide) iX8_comes_8 (List.mem_of_getElem? (i := 1) rfl) rfl dX8_comes_58 rfl ?_
  refine zz_iload (npc := 63) 0 rfl dX8_comes_61 rfl ?_
  refine zz_iconst (npc := 64) 4 (by decide) dX8_comes_63 rfl ?_
  refine zz_callSi (npc := 67) (n := 2) (As := [.int v1, .int 4]) gX8_comes_X8_at rfl rfl rfl (by decide +kernel) ⟨Nat.le_of_ble_eq_true rfl, Nat.le_of_ble_eq_true rfl⟩ rfl rfl (Nat.le_of_ble_eq_true rfl) (mtX8_at E l  v1 4 M13) dX8_comes_64 rfl (fun r15 M14 _ => ?_)
  refine zz_iconst (npc := 68) (-1) (by decide) dX8_comes_67 rfl ?_
  refine zz_iast (npc := 69) (by decide) (by rfl) dX8_comes_68 rfl (fun M16 => ?_)
  refine zz_aload_n (npc := 70) 1 rfl rfl dX8_comes_69 rfl ?_
  refine zz_getR (npc := 73) (i := 0) (C0 := RX8) (T := TX8) (N := 29) (by decide) (by rfl) rfl (by decide) iX8_comes_8 (List.mem_of_getElem? (i := 1) rfl) rfl dX8_comes_70 rfl ?_
  refine zz_iconst (npc := 74) 4 (by decide) dX8_comes_73 rfl ?_
  refine zz_dup2 (npc := 75) rfl rfl dX8_comes_74 rfl ?_
  refine zz_iald (npc := 76) (by decide) (by rfl) dX8_comes_75 rfl ?_
  refine zz_iconst (npc := 77) 1 (by decide) dX8_comes_76 rfl ?_
  refine zz_iadd (npc := 78) dX8_comes_77 rfl ?_
  refine zz_iast (npc := 79) (by decide) (by rfl) dX8_comes_78 rfl (fun M17 => ?_)
  refine zz_iload (npc := 81) 0 rfl dX8_comes_79 rfl ?_
  exact zz_iret dX8_comes_81
abbrev rmX8_person : Room := { frames := 2, cells := 0, slots := 0, locals := 46 }
theorem iX8_person_8 : ∀ w ∈ u_ws RX8 TX8 29, w ∈ wsX8_person := fun w h => List.mem_cons_of_mem _ (List.mem_append_right _ h)
noncomputable def fX8_person  (x1 : Int32) (M : Mem) : Option (Int32 × Mem) := (bd (fX8_isKind x1 M) fun r2 M1 => (if r2 = 0 then (bd (fX8_finding (-1000001) M1) fun r8 M7 => (some (r8, M7))) else (ck (inb 4 56) (if (M1 58 (ix 4)) = 8 then (bd (fX8_finding (-1000002) M1) fun r6 M5 => (some (r6, M5))) else (bd (fX8_comes x1 0 3 0 M1) fun r4 M3 => (some (r4, M3)))))))
set_option maxHeartbeats 4000000 in
set_option maxRecDepth 100000 in
theorem mtX8_person (E : EV) (l : Launch)   (x1 : Int32) (M : Mem) : CT E l yX8_person wsX8_person rmX8_person vI [.ref (eA E 57), .int x1] (fX8_person x1 M) M := by
  refine ct_of (cc := cX8_person) (nL := 2) (ret := (some .int)) (by decide +kernel) rfl (Nat.le_of_ble_eq_true rfl) ?_
  show ZZ E l RX8 cX8_person 2 (some .int) wsX8_person rmX8_person vI (fX8_person x1 M) M [(0, .ref (eA E 57)), (1, .int x1)] 0 []
  unfold fX8_person
  refine zz_iload_n (npc := 1) 1 rfl rfl dX8_person_0 rfl ?_
  refine zz_callSi (npc := 4) (n := 1) (As := [.int x1]) gX8_person_X8_isKind rfl rfl rfl (by decide +kernel) ⟨Nat.le_of_ble_eq_true rfl, Nat.le_of_ble_eq_true rfl⟩ rfl rfl (Nat.le_of_ble_eq_true rfl) (mtX8_isKind E l  x1 M) dX8_person_1 rfl (fun r2 M1 _ => ?_)
  refine zz_if_ne (tgt := 14) (npc := 7) dX8_person_4 (by decide) rfl ?_ ?_
  · refine zz_aload_n (npc := 15) 0 rfl rfl dX8_person_14 rfl ?_
    refine zz_getR (npc := 18) (i := 0) (C0 := RX8) (T := TX8) (N := 29) (by decide) (by rfl) rfl (by decide) iX8_person_8 (List.mem_of_getElem? (i := 2) rfl) rfl dX8_person_15 rfl ?_
    refine zz_iconst (npc := 19) 4 (by decide) dX8_person_18 rfl ?_
    refine zz_iald (npc := 20) (by decide) (by rfl) dX8_person_19 rfl ?_
    refine zz_bipush (npc := 22) 8 (by decide) dX8_person_20 rfl ?_
    refine zz_icmp_ne (tgt := 34) (npc := 25) dX8_person_22 (by decide) rfl ?_ ?_
    · refine zz_aload_n (npc := 35) 0 rfl rfl dX8_person_34 rfl ?_
      refine zz_iload_n (npc := 36) 1 rfl rfl dX8_person_35 rfl ?_
      refine zz_iconst (npc := 37) 0 (by decide) dX8_person_36 rfl ?_
      refine zz_iconst (npc := 38) 3 (by decide) dX8_person_37 rfl ?_
      refine zz_iconst (npc := 39) 0 (by decide) dX8_person_38 rfl ?_
      refine zz_callVi (npc := 42) (n := 4) (As := [.int x1, .int 0, .int 3, .int 0]) (by decide) (by rfl) rfl gX8_person_X8_comes rfl rfl rfl (by decide +kernel) ⟨Nat.le_of_ble_eq_true rfl, Nat.le_of_ble_eq_true rfl⟩ rfl rfl (Nat.le_of_ble_eq_true rfl) (mtX8_comes E l  x1 0 3 0 M1) dX8_person_39 rfl (fun r4 M3 _ => ?_)
      exact zz_iret dX8_person_42
    · refine zz_aload_n (npc := 26) 0 rfl rfl dX8_person_25 rfl ?_
      refine zz_ldc (npc := 28) (-1000002) (List.mem_of_getElem? (i := 3) rfl) dX8_person_26 rfl ?_
      refine zz_callVi (npc := 31) (n := 1) (As := [.int (-1000002)]) (by decide) (by rfl) rfl gX8_person_X8_finding rfl rfl rfl (by decide +kernel) ⟨Nat.le_of_ble_eq_true rfl, Nat.le_of_ble_eq_true rfl⟩ rfl rfl (Nat.le_of_ble_eq_true rfl) (mtX8_finding E l  (-1000002) M1) dX8_person_28 rfl (fun r6 M5 _ => ?_)
      refine zz_goto (npc := 0) (tgt := 42) dX8_person_31 (by decide) ?_
      exact zz_iret dX8_person_42
  · refine zz_aload_n (npc := 8) 0 rfl rfl dX8_person_7 rfl ?_
    refine zz_ldc (npc := 10) (-1000001) (List.mem_of_getElem? (i := 1) rfl) dX8_person_8 rfl ?_
    refine zz_callVi (npc := 13) (n := 1) (As := [.int (-1000001)]) (by decide) (by rfl) rfl gX8_person_X8_finding rfl rfl rfl (by decide +kernel) ⟨Nat.le_of_ble_eq_true rfl, Nat.le_of_ble_eq_true rfl⟩ rfl rfl (Nat.le_of_ble_eq_true rfl) (mtX8_finding E l  (-1000001) M1) dX8_person_10 rfl (fun r8 M7 _ => ?_)
    exact zz_iret dX8_person_13
abbrev rmX8_above : Room := { frames := 0, cells := 0, slots := 0, locals := 0 }
noncomputable def fX8_above  (x1 : Int32) (M : Mem) : Option (Int32 × Mem) := (if x1 = 0 then (some ((-1), M)) else (if x1 = 3 then (some (2, M)) else (if x1 = 4 then (some (3, M)) else (if x1 = 6 then (some (1, M)) else (some (0, M))))))
set_option maxHeartbeats 4000000 in
set_option maxRecDepth 100000 in
theorem mtX8_above (E : EV) (l : Launch)   (x1 : Int32) (M : Mem) : CT E l yX8_above wsX8_above rmX8_above vI [.int x1] (fX8_above x1 M) M := by
  refine ct_of (cc := cX8_above) (nL := 1) (ret := (some .int)) (by decide +kernel) rfl (Nat.le_of_ble_eq_true rfl) ?_
  show ZZ E l RX8 cX8_above 1 (some .int) wsX8_above rmX8_above vI (fX8_above x1 M) M [(0, .int x1)] 0 []
  unfold fX8_above
  refine zz_iload_n (npc := 1) 0 rfl rfl dX8_above_0 rfl ?_
  refine zz_if_ne (tgt := 8) (npc := 4) dX8_above_1 (by decide) rfl ?_ ?_
  · refine zz_iload_n (npc := 9) 0 rfl rfl dX8_above_8 rfl ?_
    refine zz_iconst (npc := 10) 3 (by decide) dX8_above_9 rfl ?_
    refine zz_icmp_ne (tgt := 17) (npc := 13) dX8_above_10 (by decide) rfl ?_ ?_
    · refine zz_iload_n (npc := 18) 0 rfl rfl dX8_above_17 rfl ?_
      refine zz_iconst (npc := 19) 4 (by decide) dX8_above_18 rfl ?_
      refine zz_icmp_ne (tgt := 26) (npc := 22) dX8_above_19 (by decide) rfl ?_ ?_
      · refine zz_iload_n (npc := 27) 0 rfl rfl dX8_above_26 rfl ?_
        refine zz_bipush (npc := 29) 6 (by decide) dX8_above_27 rfl ?_
        refine zz_icmp_ne (tgt := 36) (npc := 32) dX8_above_29 (by decide) rfl ?_ ?_
        · refine zz_iconst (npc := 37) 0 (by decide) dX8_above_36 rfl ?_
          exact zz_iret dX8_above_37
        · refine zz_iconst (npc := 33) 1 (by decide) dX8_above_32 rfl ?_
          refine zz_goto (npc := 0) (tgt := 37) dX8_above_33 (by decide) ?_
          exact zz_iret dX8_above_37
      · refine zz_iconst (npc := 23) 3 (by decide) dX8_above_22 rfl ?_
        refine zz_goto (npc := 0) (tgt := 37) dX8_above_23 (by decide) ?_
        exact zz_iret dX8_above_37
    · refine zz_iconst (npc := 14) 2 (by decide) dX8_above_13 rfl ?_
      refine zz_goto (npc := 0) (tgt := 37) dX8_above_14 (by decide) ?_
      exact zz_iret dX8_above_37
  · refine zz_iconst (npc := 5) (-1) (by decide) dX8_above_4 rfl ?_
    refine zz_goto (npc := 0) (tgt := 37) dX8_above_5 (by decide) ?_
    exact zz_iret dX8_above_37
abbrev rmX8_isUnder : Room := { frames := 1, cells := 0, slots := 0, locals := 20 }
noncomputable def fX8_isUnder_L19   (y2 : Int32) (M : Mem) : Option (Int32 × Mem) := (if y2 < 0 then (ck (isb 0) (some (0, M))) else (ck (isb 1) (some (1, M))))
set_option maxHeartbeats 4000000 in
set_option maxRecDepth 100000 in
theorem zX8_isUnder_L19 (E : EV) (l : Launch)     : ∀ (y2 : Int32) (M : Mem), ZZ E l RX8 cX8_isUnder 3 (some .boolean) wsX8_isUnder rmX8_isUnder vI (fX8_isUnder_L19 y2 M) M [(2, .int y2)] 19 [] := by
  intro y2 M
  unfold fX8_isUnder_L19
  refine zz_iload_n (npc := 20) 0 rfl rfl dX8_isUnder_19 rfl ?_
  refine zz_if_lt (tgt := 27) (npc := 23) dX8_isUnder_20 (by decide) rfl ?_ ?_
  · refine zz_iconst (npc := 28) 0 (by decide) dX8_isUnder_27 rfl ?_
    exact zz_zret dX8_isUnder_28
  · refine zz_iconst (npc := 24) 1 (by decide) dX8_isUnder_23 rfl ?_
    refine zz_goto (npc := 0) (tgt := 28) dX8_isUnder_24 (by decide) ?_
    exact zz_zret dX8_isUnder_28
noncomputable def fX8_isUnder_L2   : Nat → Int32 → Int32 → Mem → Option (Int32 × Mem)
  | 0, _, _, _ => none
  | n + 1, y1, y2, M => (if y2 < 0 then (fX8_isUnder_L19  y2 M) else (if y2 = y1 then (fX8_isUnder_L19  y2 M) else (bd (fX8_above y2 M) fun r2 M1 => (fX8_isUnder_L2  n y1 r2 M1))))
set_option maxHeartbeats 4000000 in
set_option maxRecDepth 100000 in
theorem zX8_isUnder_L2 (E : EV) (l : Launch)     : ∀ (n : Nat) (y1 : Int32) (y2 : Int32) (M : Mem), ZZ E l RX8 cX8_isUnder 3 (some .boolean) wsX8_isUnder rmX8_isUnder vI (fX8_isUnder_L2 n y1 y2 M) M [(1, .int y1), (2, .int y2)] 2 [] := by
  intro n
  induction n with
  | zero => intros; exact zz_none
  | succ n ih =>
    intro y1 y2 M
    rw [fX8_isUnder_L2]
    refine zz_iload_n (npc := 3) 1 rfl rfl dX8_isUnder_2 rfl ?_
    refine zz_if_lt (tgt := 19) (npc := 6) dX8_isUnder_3 (by decide) rfl ?_ ?_
    · refine zz_sub (npc := 0) (lv1 := [(2, .int y2)]) [1] rfl ?_
      exact zX8_isUnder_L19 E l  y2 M
    · refine zz_iload_n (npc := 7) 1 rfl rfl dX8_isUnder_6 rfl ?_
      refine zz_iload_n (npc := 8) 0 rfl rfl dX8_isUnder_7 rfl ?_
      refine zz_icmp_eq (tgt := 19) (npc := 11) dX8_isUnder_8 (by decide) rfl ?_ ?_
      · refine zz_sub (npc := 0) (lv1 := [(2, .int y2)]) [1] rfl ?_
        exact zX8_isUnder_L19 E l  y2 M
      · refine zz_iload_n (npc := 12) 1 rfl rfl dX8_isUnder_11 rfl ?_
        refine zz_callSi (npc := 15) (n := 1) (As := [.int y2]) gX8_isUnder_X8_above rfl rfl rfl (by decide +kernel) ⟨Nat.le_of_ble_eq_true rfl, Nat.le_of_ble_eq_true rfl⟩ rfl rfl (Nat.le_of_ble_eq_true rfl) (mtX8_above E l  y2 M) dX8_isUnder_12 rfl (fun r2 M1 _ => ?_)
        refine zz_istore_n (npc := 16) (lv1 := [(2, .int r2), (1, .int y1)]) rfl dX8_isUnder_15 rfl (by decide) rfl ?_
        refine zz_goto (npc := 0) (tgt := 2) dX8_isUnder_16 (by decide) ?_
        refine zz_sub (npc := 0) (lv1 := [(1, .int y1), (2, .int r2)]) [1, 0] rfl ?_
        exact ih y1 r2 M1
noncomputable def fX8_isUnder  (x1 : Int32) (x2 : Int32) (M : Mem) : Option (Int32 × Mem) := (fX8_isUnder_L2  fu x2 x1 M)
set_option maxHeartbeats 4000000 in
set_option maxRecDepth 100000 in
theorem mtX8_isUnder (E : EV) (l : Launch)   (x1 : Int32) (x2 : Int32) (M : Mem) : CT E l yX8_isUnder wsX8_isUnder rmX8_isUnder vI [.int x1, .int x2] (fX8_isUnder x1 x2 M) M := by
  refine ct_of (cc := cX8_isUnder) (nL := 3) (ret := (some .boolean)) (by decide +kernel) rfl (Nat.le_of_ble_eq_true rfl) ?_
  show ZZ E l RX8 cX8_isUnder 3 (some .boolean) wsX8_isUnder rmX8_isUnder vI (fX8_isUnder x1 x2 M) M [(0, .int x1), (1, .int x2)] 0 []
  unfold fX8_isUnder
  refine zz_iload_n (npc := 1) 0 rfl rfl dX8_isUnder_0 rfl ?_
  refine zz_istore_n (npc := 2) (lv1 := [(2, .int x1), (0, .int x1), (1, .int x2)]) rfl dX8_isUnder_1 rfl (by decide) rfl ?_
  refine zz_sub (npc := 0) (lv1 := [(1, .int x2), (2, .int x1)]) [2, 0] rfl ?_
  exact zX8_isUnder_L2 E l  fu x2 x1 M
abbrev rmX8_claimOf : Room := { frames := 2, cells := 0, slots := 0, locals := 43 }
noncomputable def fX8_claimOf  (x1 : Int32) (x2 : Int32) (M : Mem) : Option (Int32 × Mem) := (bd (fX8_personIs x1 1 M) fun r2 M1 => (bd (fX8_personIs x1 2 M1) fun r4 M3 => (bv (r2 + (2 * r4)) fun v5 => (bd (fX8_personIs x1 0 M3) fun r7 M6 => (if r7 = 1 then (some (v5, M6)) else (if r7 = 2 then (some (r2 + 10, M6)) else (if r7 = 3 then (some ((r2 + 10) / 2, M6)) else (if r7 = 4 then (if (irm x2 2) = 0 then (some ((r2 + 10) / 2, M6)) else (some (0, M6))) else (if r7 = 5 then (if (irm x2 2) = (irm x1 2) then (some (50, M6)) else (some (0, M6))) else (if r7 = 6 then (if x2 = 8 then (some (99, M6)) else (some (v5, M6))) else (some (r2, M6))))))))))))
set_option maxHeartbeats 4000000 in
set_option maxRecDepth 100000 in
theorem mtX8_claimOf (E : EV) (l : Launch)   (x1 : Int32) (x2 : Int32) (M : Mem) : CT E l yX8_claimOf wsX8_claimOf rmX8_claimOf vI [.ref (eA E 57), .int x1, .int x2] (fX8_claimOf x1 x2 M) M := by
  refine ct_of (cc := cX8_claimOf) (nL := 5) (ret := (some .int)) (by decide +kernel) rfl (Nat.le_of_ble_eq_true rfl) ?_
  show ZZ E l RX8 cX8_claimOf 5 (some .int) wsX8_claimOf rmX8_claimOf vI (fX8_claimOf x1 x2 M) M [(0, .ref (eA E 57)), (1, .int x1), (2, .int x2)] 0 []
  unfold fX8_claimOf
  refine zz_aload_n (npc := 1) 0 rfl rfl dX8_claimOf_0 rfl ?_
  refine zz_iload_n (npc := 2) 1 rfl rfl dX8_claimOf_1 rfl ?_
  refine zz_iconst (npc := 3) 1 (by decide) dX8_claimOf_2 rfl ?_
  refine zz_callVi (npc := 6) (n := 2) (As := [.int x1, .int 1]) (by decide) (by rfl) rfl gX8_claimOf_X8_personIs rfl rfl rfl (by decide +kernel) ⟨Nat.le_of_ble_eq_true rfl, Nat.le_of_ble_eq_true rfl⟩ rfl rfl (Nat.le_of_ble_eq_true rfl) (mtX8_personIs E l  x1 1 M) dX8_claimOf_3 rfl (fun r2 M1 _ => ?_)
  refine zz_istore_n (npc := 7) (lv1 := [(3, .int r2), (0, .ref (eA E 57)), (1, .int x1), (2, .int x2)]) rfl dX8_claimOf_6 rfl (by decide) rfl ?_
  refine zz_iload_n (npc := 8) 0 rfl rfl dX8_claimOf_7 rfl ?_
  refine zz_iconst (npc := 9) 2 (by decide) dX8_claimOf_8 rfl ?_
  refine zz_aload_n (npc := 10) 1 rfl rfl dX8_claimOf_9 rfl ?_
  refine zz_iload_n (npc := 11) 2 rfl rfl dX8_claimOf_10 rfl ?_
  refine zz_iconst (npc := 12) 2 (by decide) dX8_claimOf_11 rfl ?_
  refine zz_callVi (npc := 15) (n := 2) (As := [.int x1, .int 2]) (by decide) (by rfl) rfl gX8_claimOf_X8_personIs rfl rfl rfl (by decide +kernel) ⟨Nat.le_of_ble_eq_true rfl, Nat.le_of_ble_eq_true rfl⟩ rfl rfl (Nat.le_of_ble_eq_true rfl) (mtX8_personIs E l  x1 2 M1) dX8_claimOf_12 rfl (fun r4 M3 _ => ?_)
  refine zz_imul (npc := 16) dX8_claimOf_15 rfl ?_
  refine zz_iadd (npc := 17) dX8_claimOf_16 rfl ?_
  refine zz_istoreB (npc := 19) (lv1 := fun v5 => [(4, .int v5), (3, .int r2), (0, .ref (eA E 57)), (1, .int x1), (2, .int x2)]) dX8_claimOf_17 rfl (by decide) (fun _ => rfl) (fun v5 => ?_)
  refine zz_aload_n (npc := 20) 2 rfl rfl dX8_claimOf_19 rfl ?_
  refine zz_iload_n (npc := 21) 3 rfl rfl dX8_claimOf_20 rfl ?_
  refine zz_iconst (npc := 22) 0 (by decide) dX8_claimOf_21 rfl ?_
  refine zz_callVi (npc := 25) (n := 2) (As := [.int x1, .int 0]) (by decide) (by rfl) rfl gX8_claimOf_X8_personIs rfl rfl rfl (by decide +kernel) ⟨Nat.le_of_ble_eq_true rfl, Nat.le_of_ble_eq_true rfl⟩ rfl rfl (Nat.le_of_ble_eq_true rfl) (mtX8_personIs E l  x1 0 M3) dX8_claimOf_22 rfl (fun r7 M6 _ => ?_)
  refine zz_tcase (npc := 0) (off := 39) (tgt := 64) 1 dX8_claimOf_25 (by decide) (by decide) (by decide) (by decide) (fun _ => ?_) (fun q25_0 => ?_)
  · refine zz_iload (npc := 66) 0 rfl dX8_claimOf_64 rfl ?_
    exact zz_iret dX8_claimOf_66
  refine zz_tcase (npc := 0) (off := 42) (tgt := 67) 2 dX8_claimOf_25 (by decide) (by decide) (by decide) (by decide) (fun _ => ?_) (fun q25_1 => ?_)
  · refine zz_iload_n (npc := 68) 1 rfl rfl dX8_claimOf_67 rfl ?_
    refine zz_bipush (npc := 70) 10 (by decide) dX8_claimOf_68 rfl ?_
    refine zz_iadd (npc := 71) dX8_claimOf_70 rfl ?_
    exact zz_iret dX8_claimOf_71
  refine zz_tcase (npc := 0) (off := 47) (tgt := 72) 3 dX8_claimOf_25 (by decide) (by decide) (by decide) (by decide) (fun _ => ?_) (fun q25_2 => ?_)
  · refine zz_iload_n (npc := 73) 1 rfl rfl dX8_claimOf_72 rfl ?_
    refine zz_bipush (npc := 75) 10 (by decide) dX8_claimOf_73 rfl ?_
    refine zz_iadd (npc := 76) dX8_claimOf_75 rfl ?_
    refine zz_iconst (npc := 77) 2 (by decide) dX8_claimOf_76 rfl ?_
    refine zz_idiv (npc := 78) (by decide) dX8_claimOf_77 rfl ?_
    exact zz_iret dX8_claimOf_78
  refine zz_tcase (npc := 0) (off := 54) (tgt := 79) 4 dX8_claimOf_25 (by decide) (by decide) (by decide) (by decide) (fun _ => ?_) (fun q25_3 => ?_)
  · refine zz_iload_n (npc := 80) 4 rfl rfl dX8_claimOf_79 rfl ?_
    refine zz_iconst (npc := 81) 2 (by decide) dX8_claimOf_80 rfl ?_
    refine zz_irem (npc := 82) (by decide) dX8_claimOf_81 rfl ?_
    refine zz_if_ne (tgt := 94) (npc := 85) dX8_claimOf_82 (by decide) rfl ?_ ?_
    · refine zz_iconst (npc := 95) 0 (by decide) dX8_claimOf_94 rfl ?_
      exact zz_iret dX8_claimOf_95
    · refine zz_iload_n (npc := 86) 1 rfl rfl dX8_claimOf_85 rfl ?_
      refine zz_bipush (npc := 88) 10 (by decide) dX8_claimOf_86 rfl ?_
      refine zz_iadd (npc := 89) dX8_claimOf_88 rfl ?_
      refine zz_iconst (npc := 90) 2 (by decide) dX8_claimOf_89 rfl ?_
      refine zz_idiv (npc := 91) (by decide) dX8_claimOf_90 rfl ?_
      refine zz_goto (npc := 0) (tgt := 95) dX8_claimOf_91 (by decide) ?_
      exact zz_iret dX8_claimOf_95
  refine zz_tcase (npc := 0) (off := 71) (tgt := 96) 5 dX8_claimOf_25 (by decide) (by decide) (by decide) (by decide) (fun _ => ?_) (fun q25_4 => ?_)
  · refine zz_iload_n (npc := 97) 4 rfl rfl dX8_claimOf_96 rfl ?_
    refine zz_iconst (npc := 98) 2 (by decide) dX8_claimOf_97 rfl ?_
    refine zz_irem (npc := 99) (by decide) dX8_claimOf_98 rfl ?_
    refine zz_iload_n (npc := 100) 3 rfl rfl dX8_claimOf_99 rfl ?_
    refine zz_iconst (npc := 101) 2 (by decide) dX8_claimOf_100 rfl ?_
    refine zz_irem (npc := 102) (by decide) dX8_claimOf_101 rfl ?_
    refine zz_icmp_ne (tgt := 110) (npc := 105) dX8_claimOf_102 (by decide) rfl ?_ ?_
    · refine zz_iconst (npc := 111) 0 (by decide) dX8_claimOf_110 rfl ?_
      exact zz_iret dX8_claimOf_111
    · refine zz_bipush (npc := 107) 50 (by decide) dX8_claimOf_105 rfl ?_
      refine zz_goto (npc := 0) (tgt := 111) dX8_claimOf_107 (by decide) ?_
      exact zz_iret dX8_claimOf_111
  refine zz_tcase (npc := 0) (off := 87) (tgt := 112) 6 dX8_claimOf_25 (by decide) (by decide) (by decide) (by decide) (fun _ => ?_) (fun q25_5 => ?_)
  · refine zz_iload_n (npc := 113) 4 rfl rfl dX8_claimOf_112 rfl ?_
    refine zz_bipush (npc := 115) 8 (by decide) dX8_claimOf_113 rfl ?_
    refine zz_icmp_ne (tgt := 123) (npc := 118) dX8_claimOf_115 (by decide) rfl ?_ ?_
    · refine zz_iload (npc := 125) 0 rfl dX8_claimOf_123 rfl ?_
      exact zz_iret dX8_claimOf_125
    · refine zz_bipush (npc := 120) 99 (by decide) dX8_claimOf_118 rfl ?_
      refine zz_goto (npc := 0) (tgt := 125) dX8_claimOf_120 (by decide) ?_
      exact zz_iret dX8_claimOf_125
  refine zz_tdef (npc := 0) (tgt := 126) dX8_claimOf_25 (td_r _ 1 6 (by decide) (by intro k h1 h2; rcases (show k = 1 ∨ k = 2 ∨ k = 3 ∨ k = 4 ∨ k = 5 ∨ k = 6 by omega) with rfl | rfl | rfl | rfl | rfl | rfl <;> first | exact q25_0 | exact q25_1 | exact q25_2 | exact q25_3 | exact q25_4 | exact q25_5)) (by decide) ?_
  refine zz_iload_n (npc := 127) 1 rfl rfl dX8_claimOf_126 rfl ?_
  exact zz_iret dX8_claimOf_127
abbrev rmX8_firstOf : Room := { frames := 3, cells := 0, slots := 0, locals := 67 }
noncomputable def fX8_firstOf  (x1 : Int32) (x2 : Int32) (x3 : Int32) (M : Mem) : Option (Int32 × Mem) := (bv (imin x1 x2) fun v1 => (bv (imax x1 x2) fun v2 => (bd (fX8_claimOf v2 x3 M) fun r4 M3 => (bd (fX8_claimOf v1 x3 M3) fun r6 M5 => (if r4 ≤ r6 then (some (v1, M5)) else (some (v2, M5)))))))
set_option maxHeartbeats 4000000 in
set_option maxRecDepth 100000 in
theorem mtX8_firstOf (E : EV) (l : Launch)   (x1 : Int32) (x2 : Int32) (x3 : Int32) (M : Mem) : CT E l yX8_firstOf wsX8_firstOf rmX8_firstOf vI [.ref (eA E 57), .int x1, .int x2, .int x3] (fX8_firstOf x1 x2 x3 M) M := by
  refine ct_of (cc := cX8_firstOf) (nL := 6) (ret := (some .int)) (by decide +kernel) rfl (Nat.le_of_ble_eq_true rfl) ?_
  show ZZ E l RX8 cX8_firstOf 6 (some .int) wsX8_firstOf rmX8_firstOf vI (fX8_firstOf x1 x2 x3 M) M [(0, .ref (eA E 57)), (1, .int x1), (2, .int x2), (3, .int x3)] 0 []
  unfold fX8_firstOf
  refine zz_iload_n (npc := 1) 1 rfl rfl dX8_firstOf_0 rfl ?_
  refine zz_iload_n (npc := 2) 2 rfl rfl dX8_firstOf_1 rfl ?_
  refine zz_mmin (npc := 5) (List.mem_of_getElem? (i := 1) rfl) (List.mem_of_getElem? (i := 2) rfl) (List.mem_of_getElem? (i := 3) rfl) (List.mem_of_getElem? (i := 4) rfl) (Nat.le_of_ble_eq_true rfl) (Nat.le_of_ble_eq_true rfl) dX8_firstOf_2 rfl ?_
  refine zz_istoreB (npc := 7) (lv1 := fun v1 => [(4, .int v1), (0, .ref (eA E 57)), (1, .int x1), (2, .int x2), (3, .int x3)]) dX8_firstOf_5 rfl (by decide) (fun _ => rfl) (fun v1 => ?_)
  refine zz_iload_n (npc := 8) 2 rfl rfl dX8_firstOf_7 rfl ?_
  refine zz_iload_n (npc := 9) 3 rfl rfl dX8_firstOf_8 rfl ?_
  refine zz_mmax (npc := 12) (List.mem_of_getElem? (i := 5) rfl) (List.mem_of_getElem? (i := 6) rfl) (List.mem_of_getElem? (i := 3) rfl) (List.mem_of_getElem? (i := 7) rfl) (Nat.le_of_ble_eq_true rfl) (Nat.le_of_ble_eq_true rfl) dX8_firstOf_9 rfl ?_
  refine zz_istoreB (npc := 14) (lv1 := fun v2 => [(5, .int v2), (4, .int v1), (0, .ref (eA E 57)), (1, .int x1), (2, .int x2), (3, .int x3)]) dX8_firstOf_12 rfl (by decide) (fun _ => rfl) (fun v2 => ?_)
  refine zz_aload_n (npc := 15) 2 rfl rfl dX8_firstOf_14 rfl ?_
  refine zz_iload (npc := 17) 0 rfl dX8_firstOf_15 rfl ?_
  refine zz_iload_n (npc := 18) 5 rfl rfl dX8_firstOf_17 rfl ?_
  refine zz_callVi (npc := 21) (n := 2) (As := [.int v2, .int x3]) (by decide) (by rfl) rfl gX8_firstOf_X8_claimOf rfl rfl rfl (by decide +kernel) ⟨Nat.le_of_ble_eq_true rfl, Nat.le_of_ble_eq_true rfl⟩ rfl rfl (Nat.le_of_ble_eq_true rfl) (mtX8_claimOf E l  v2 x3 M) dX8_firstOf_18 rfl (fun r4 M3 _ => ?_)
  refine zz_aload_n (npc := 22) 2 rfl rfl dX8_firstOf_21 rfl ?_
  refine zz_iload (npc := 24) 1 rfl dX8_firstOf_22 rfl ?_
  refine zz_iload_n (npc := 25) 5 rfl rfl dX8_firstOf_24 rfl ?_
  refine zz_callVi (npc := 28) (n := 2) (As := [.int v1, .int x3]) (by decide) (by rfl) rfl gX8_firstOf_X8_claimOf rfl rfl rfl (by decide +kernel) ⟨Nat.le_of_ble_eq_true rfl, Nat.le_of_ble_eq_true rfl⟩ rfl rfl (Nat.le_of_ble_eq_true rfl) (mtX8_claimOf E l  v1 x3 M3) dX8_firstOf_25 rfl (fun r6 M5 _ => ?_)
  refine zz_icmp_le (tgt := 36) (npc := 31) dX8_firstOf_28 (by decide) rfl ?_ ?_
  · refine zz_iload (npc := 38) 1 rfl dX8_firstOf_36 rfl ?_
    exact zz_iret dX8_firstOf_38
  · refine zz_iload (npc := 33) 0 rfl dX8_firstOf_31 rfl ?_
    refine zz_goto (npc := 0) (tgt := 38) dX8_firstOf_33 (by decide) ?_
    exact zz_iret dX8_firstOf_38
abbrev rmX8_isLit : Room := { frames := 1, cells := 0, slots := 0, locals := 21 }
theorem iX8_isLit_8 : ∀ w ∈ u_ws RX8 TX8 29, w ∈ wsX8_isLit := fun w h => List.mem_cons_of_mem _ (List.mem_append_right _ h)
noncomputable def fX8_isLit  (x1 : Int32) (M : Mem) : Option (Int32 × Mem) := (ck (inb 3 56) (bd (fX8_has (M 58 (ix 3)) x1 M) fun r2 M1 => (ck (isb r2) (some (r2, M1)))))
set_option maxHeartbeats 4000000 in
set_option maxRecDepth 100000 in
theorem mtX8_isLit (E : EV) (l : Launch)   (x1 : Int32) (M : Mem) : CT E l yX8_isLit wsX8_isLit rmX8_isLit vI [.ref (eA E 57), .int x1] (fX8_isLit x1 M) M := by
  refine ct_of (cc := cX8_isLit) (nL := 2) (ret := (some .boolean)) (by decide +kernel) rfl (Nat.le_of_ble_eq_true rfl) ?_
  show ZZ E l RX8 cX8_isLit 2 (some .boolean) wsX8_isLit rmX8_isLit vI (fX8_isLit x1 M) M [(0, .ref (eA E 57)), (1, .int x1)] 0 []
  unfold fX8_isLit
  refine zz_aload_n (npc := 1) 0 rfl rfl dX8_isLit_0 rfl ?_
  refine zz_getR (npc := 4) (i := 0) (C0 := RX8) (T := TX8) (N := 29) (by decide) (by rfl) rfl (by decide) iX8_isLit_8 (List.mem_of_getElem? (i := 1) rfl) rfl dX8_isLit_1 rfl ?_
  refine zz_iconst (npc := 5) 3 (by decide) dX8_isLit_4 rfl ?_
  refine zz_iald (npc := 6) (by decide) (by rfl) dX8_isLit_5 rfl ?_
  refine zz_iload_n (npc := 7) 1 rfl rfl dX8_isLit_6 rfl ?_
  refine zz_callSi (npc := 10) (n := 2) (As := [.int (M 58 (ix 3)), .int x1]) gX8_isLit_X8_has rfl rfl rfl (by decide +kernel) ⟨Nat.le_of_ble_eq_true rfl, Nat.le_of_ble_eq_true rfl⟩ rfl rfl (Nat.le_of_ble_eq_true rfl) (mtX8_has E l  (M 58 (ix 3)) x1 M) dX8_isLit_7 rfl (fun r2 M1 _ => ?_)
  exact zz_zret dX8_isLit_10
abbrev rmX8_hasShadow : Room := { frames := 4, cells := 0, slots := 0, locals := 92 }
noncomputable def fX8_hasShadow  (x1 : Int32) (x2 : Int32) (M : Mem) : Option (Int32 × Mem) := (bd (fX8_personIs x1 4 M) fun r2 M1 => (bd (fX8_isLit x2 M1) fun r4 M3 => (if r4 = 0 then (ck (isb 0) (some (0, M3))) else (if r2 < 0 then (ck (isb 1) (some (1, M3))) else (bd (fX8_firstOf x1 r2 x2 M3) fun r6 M5 => (if r6 = x1 then (ck (isb 1) (some (1, M5))) else (ck (isb 0) (some (0, M5)))))))))
set_option maxHeartbeats 4000000 in
set_option maxRecDepth 100000 in
theorem mtX8_hasShadow (E : EV) (l : Launch)   (x1 : Int32) (x2 : Int32) (M : Mem) : CT E l yX8_hasShadow wsX8_hasShadow rmX8_hasShadow vI [.ref (eA E 57), .int x1, .int x2] (fX8_hasShadow x1 x2 M) M := by
  refine ct_of (cc := cX8_hasShadow) (nL := 4) (ret := (some .boolean)) (by decide +kernel) rfl (Nat.le_of_ble_eq_true rfl) ?_
  show ZZ E l RX8 cX8_hasShadow 4 (some .boolean) wsX8_hasShadow rmX8_hasShadow vI (fX8_hasShadow x1 x2 M) M [(0, .ref (eA E 57)), (1, .int x1), (2, .int x2)] 0 []
  unfold fX8_hasShadow
  refine zz_aload_n (npc := 1) 0 rfl rfl dX8_hasShadow_0 rfl ?_
  refine zz_iload_n (npc := 2) 1 rfl rfl dX8_hasShadow_1 rfl ?_
  refine zz_iconst (npc := 3) 4 (by decide) dX8_hasShadow_2 rfl ?_
  refine zz_callVi (npc := 6) (n := 2) (As := [.int x1, .int 4]) (by decide) (by rfl) rfl gX8_hasShadow_X8_personIs rfl rfl rfl (by decide +kernel) ⟨Nat.le_of_ble_eq_true rfl, Nat.le_of_ble_eq_true rfl⟩ rfl rfl (Nat.le_of_ble_eq_true rfl) (mtX8_personIs E l  x1 4 M) dX8_hasShadow_3 rfl (fun r2 M1 _ => ?_)
  refine zz_istore_n (npc := 7) (lv1 := [(3, .int r2), (0, .ref (eA E 57)), (1, .int x1), (2, .int x2)]) rfl dX8_hasShadow_6 rfl (by decide) rfl ?_
  refine zz_aload_n (npc := 8) 1 rfl rfl dX8_hasShadow_7 rfl ?_
  refine zz_iload_n (npc := 9) 3 rfl rfl dX8_hasShadow_8 rfl ?_
  refine zz_callVi (npc := 12) (n := 1) (As := [.int x2]) (by decide) (by rfl) rfl gX8_hasShadow_X8_isLit rfl rfl rfl (by decide +kernel) ⟨Nat.le_of_ble_eq_true rfl, Nat.le_of_ble_eq_true rfl⟩ rfl rfl (Nat.le_of_ble_eq_true rfl) (mtX8_isLit E l  x2 M1) dX8_hasShadow_9 rfl (fun r4 M3 _ => ?_)
  refine zz_if_eq (tgt := 34) (npc := 15) dX8_hasShadow_12 (by decide) rfl ?_ ?_
  · refine zz_iconst (npc := 35) 0 (by decide) dX8_hasShadow_34 rfl ?_
    exact zz_zret dX8_hasShadow_35
  · refine zz_iload_n (npc := 16) 0 rfl rfl dX8_hasShadow_15 rfl ?_
    refine zz_if_lt (tgt := 30) (npc := 19) dX8_hasShadow_16 (by decide) rfl ?_ ?_
    · refine zz_iconst (npc := 31) 1 (by decide) dX8_hasShadow_30 rfl ?_
      refine zz_goto (npc := 0) (tgt := 35) dX8_hasShadow_31 (by decide) ?_
      exact zz_zret dX8_hasShadow_35
    · refine zz_aload_n (npc := 20) 1 rfl rfl dX8_hasShadow_19 rfl ?_
      refine zz_iload_n (npc := 21) 2 rfl rfl dX8_hasShadow_20 rfl ?_
      refine zz_iload_n (npc := 22) 0 rfl rfl dX8_hasShadow_21 rfl ?_
      refine zz_iload_n (npc := 23) 3 rfl rfl dX8_hasShadow_22 rfl ?_
      refine zz_callVi (npc := 26) (n := 3) (As := [.int x1, .int r2, .int x2]) (by decide) (by rfl) rfl gX8_hasShadow_X8_firstOf rfl rfl rfl (by decide +kernel) ⟨Nat.le_of_ble_eq_true rfl, Nat.le_of_ble_eq_true rfl⟩ rfl rfl (Nat.le_of_ble_eq_true rfl) (mtX8_firstOf E l  x1 r2 x2 M3) dX8_hasShadow_23 rfl (fun r6 M5 _ => ?_)
      refine zz_iload_n (npc := 27) 2 rfl rfl dX8_hasShadow_26 rfl ?_
      refine zz_icmp_ne (tgt := 34) (npc := 30) dX8_hasShadow_27 (by decide) rfl ?_ ?_
      · refine zz_iconst (npc := 35) 0 (by decide) dX8_hasShadow_34 rfl ?_
        exact zz_zret dX8_hasShadow_35
      · refine zz_iconst (npc := 31) 1 (by decide) dX8_hasShadow_30 rfl ?_
        refine zz_goto (npc := 0) (tgt := 35) dX8_hasShadow_31 (by decide) ?_
        exact zz_zret dX8_hasShadow_35
abbrev rmX8_whoHave : Room := { frames := 5, cells := 0, slots := 0, locals := 115 }
theorem iX8_whoHave_8 : ∀ w ∈ u_ws RX8 TX8 29, w ∈ wsX8_whoHave := fun w h => List.mem_cons_of_mem _ (List.mem_append_right _ h)
noncomputable def fX8_whoHave_L31  (k4 : Int32 → Int32 → Int32 → Mem → Option (Int32 × Mem)) (y1 : Int32) (y3 : Int32) (w0 : Int32) (w1 : Int32) (M : Mem) : Option (Int32 × Mem) := (bv (w1 ||| w0) fun v3 => (bv (y3 + 1) fun v4 => (k4 y1 v3 v4 M)))
set_option maxHeartbeats 4000000 in
set_option maxRecDepth 100000 in
theorem zX8_whoHave_L31 (E : EV) (l : Launch)   (k4 : Int32 → Int32 → Int32 → Mem → Option (Int32 × Mem)) (hk4 : ∀ (y1_ : Int32) (y2_ : Int32) (y3_ : Int32) (M_ : Mem), ZZ E l RX8 cX8_whoHave 4 (some .int) wsX8_whoHave rmX8_whoHave vI (k4 y1_ y2_ y3_ M_) M_ [(0, .ref (eA E 57)), (1, .int y1_), (2, .int y2_), (3, .int y3_)] 4 []) : ∀ (y1 : Int32) (y3 : Int32) (w0 : Int32) (w1 : Int32) (M : Mem), ZZ E l RX8 cX8_whoHave 4 (some .int) wsX8_whoHave rmX8_whoHave vI (fX8_whoHave_L31 k4 y1 y3 w0 w1 M) M [(0, .ref (eA E 57)), (1, .int y1), (3, .int y3)] 31 [.int w0, .int w1] := by
  intro y1 y3 w0 w1 M
  unfold fX8_whoHave_L31
  refine zz_ior (npc := 32) dX8_whoHave_31 rfl ?_
  refine zz_istore_nB (npc := 33) (lv1 := fun v3 => [(2, .int v3), (0, .ref (eA E 57)), (1, .int y1), (3, .int y3)]) rfl dX8_whoHave_32 rfl (by decide) (fun _ => rfl) (fun v3 => ?_)
  refine zz_iincB (npc := 36) (y3 + 1) (lv1 := fun v4 => [(3, .int v4), (2, .int v3), (0, .ref (eA E 57)), (1, .int y1)]) dX8_whoHave_33 rfl 3 rfl rfl (by decide) (fun _ => rfl) (fun v4 => ?_)
  refine zz_goto (npc := 0) (tgt := 4) dX8_whoHave_36 (by decide) ?_
  refine zz_sub (npc := 0) (lv1 := [(0, .ref (eA E 57)), (1, .int y1), (2, .int v3), (3, .int v4)]) [2, 3, 1, 0] rfl ?_
  exact hk4 y1 v3 v4 M
noncomputable def fX8_whoHave_L4   : Nat → Int32 → Int32 → Int32 → Mem → Option (Int32 × Mem)
  | 0, _, _, _, _ => none
  | n + 1, y1, y2, y3, M => (ck (inb 4 56) (if (M 58 (ix 4)) ≤ y3 then (some (y2, M)) else (bd (fX8_hasShadow y3 y1 M) fun r2 M1 => (if r2 = 0 then (fX8_whoHave_L31 (fX8_whoHave_L4  n) y1 y3 0 y2 M1) else (fX8_whoHave_L31 (fX8_whoHave_L4  n) y1 y3 (shl 1 y3) y2 M1)))))
set_option maxHeartbeats 4000000 in
set_option maxRecDepth 100000 in
theorem zX8_whoHave_L4 (E : EV) (l : Launch)     : ∀ (n : Nat) (y1 : Int32) (y2 : Int32) (y3 : Int32) (M : Mem), ZZ E l RX8 cX8_whoHave 4 (some .int) wsX8_whoHave rmX8_whoHave vI (fX8_whoHave_L4 n y1 y2 y3 M) M [(0, .ref (eA E 57)), (1, .int y1), (2, .int y2), (3, .int y3)] 4 [] := by
  intro n
  induction n with
  | zero => intros; exact zz_none
  | succ n ih =>
    intro y1 y2 y3 M
    rw [fX8_whoHave_L4]
    refine zz_iload_n (npc := 5) 3 rfl rfl dX8_whoHave_4 rfl ?_
    refine zz_aload_n (npc := 6) 0 rfl rfl dX8_whoHave_5 rfl ?_
    refine zz_getR (npc := 9) (i := 0) (C0 := RX8) (T := TX8) (N := 29) (by decide) (by rfl) rfl (by decide) iX8_whoHave_8 (List.mem_of_getElem? (i := 1) rfl) rfl dX8_whoHave_6 rfl ?_
    refine zz_iconst (npc := 10) 4 (by decide) dX8_whoHave_9 rfl ?_
    refine zz_iald (npc := 11) (by decide) (by rfl) dX8_whoHave_10 rfl ?_
    refine zz_icmp_ge (tgt := 39) (npc := 14) dX8_whoHave_11 (by decide) rfl ?_ ?_
    · refine zz_iload_n (npc := 40) 2 rfl rfl dX8_whoHave_39 rfl ?_
      exact zz_iret dX8_whoHave_40
    · refine zz_iload_n (npc := 15) 2 rfl rfl dX8_whoHave_14 rfl ?_
      refine zz_aload_n (npc := 16) 0 rfl rfl dX8_whoHave_15 rfl ?_
      refine zz_iload_n (npc := 17) 3 rfl rfl dX8_whoHave_16 rfl ?_
      refine zz_iload_n (npc := 18) 1 rfl rfl dX8_whoHave_17 rfl ?_
      refine zz_callVi (npc := 21) (n := 2) (As := [.int y3, .int y1]) (by decide) (by rfl) rfl gX8_whoHave_X8_hasShadow rfl rfl rfl (by decide +kernel) ⟨Nat.le_of_ble_eq_true rfl, Nat.le_of_ble_eq_true rfl⟩ rfl rfl (Nat.le_of_ble_eq_true rfl) (mtX8_hasShadow E l  y3 y1 M) dX8_whoHave_18 rfl (fun r2 M1 _ => ?_)
      refine zz_if_eq (tgt := 30) (npc := 24) dX8_whoHave_21 (by decide) rfl ?_ ?_
      · refine zz_iconst (npc := 31) 0 (by decide) dX8_whoHave_30 rfl ?_
        refine zz_sub (npc := 0) (lv1 := [(0, .ref (eA E 57)), (1, .int y1), (3, .int y3)]) [0, 1, 3] rfl ?_
        exact zX8_whoHave_L31 E l (fX8_whoHave_L4  n) ih y1 y3 0 y2 M1
      · refine zz_iconst (npc := 25) 1 (by decide) dX8_whoHave_24 rfl ?_
        refine zz_iload_n (npc := 26) 3 rfl rfl dX8_whoHave_25 rfl ?_
        refine zz_ishl (npc := 27) dX8_whoHave_26 rfl ?_
        refine zz_goto (npc := 0) (tgt := 31) dX8_whoHave_27 (by decide) ?_
        refine zz_sub (npc := 0) (lv1 := [(0, .ref (eA E 57)), (1, .int y1), (3, .int y3)]) [0, 1, 3] rfl ?_
        exact zX8_whoHave_L31 E l (fX8_whoHave_L4  n) ih y1 y3 (shl 1 y3) y2 M1
noncomputable def fX8_whoHave  (x1 : Int32) (M : Mem) : Option (Int32 × Mem) := (fX8_whoHave_L4  fu x1 0 0 M)
set_option maxHeartbeats 4000000 in
set_option maxRecDepth 100000 in
theorem mtX8_whoHave (E : EV) (l : Launch)   (x1 : Int32) (M : Mem) : CT E l yX8_whoHave wsX8_whoHave rmX8_whoHave vI [.ref (eA E 57), .int x1] (fX8_whoHave x1 M) M := by
  refine ct_of (cc := cX8_whoHave) (nL := 4) (ret := (some .int)) (by decide +kernel) rfl (Nat.le_of_ble_eq_true rfl) ?_
  show ZZ E l RX8 cX8_whoHave 4 (some .int) wsX8_whoHave rmX8_whoHave vI (fX8_whoHave x1 M) M [(0, .ref (eA E 57)), (1, .int x1)] 0 []
  unfold fX8_whoHave
  refine zz_iconst (npc := 1) 0 (by decide) dX8_whoHave_0 rfl ?_
  refine zz_istore_n (npc := 2) (lv1 := [(2, .int 0), (0, .ref (eA E 57)), (1, .int x1)]) rfl dX8_whoHave_1 rfl (by decide) rfl ?_
  refine zz_iconst (npc := 3) 0 (by decide) dX8_whoHave_2 rfl ?_
  refine zz_istore_n (npc := 4) (lv1 := [(3, .int 0), (2, .int 0), (0, .ref (eA E 57)), (1, .int x1)]) rfl dX8_whoHave_3 rfl (by decide) rfl ?_
  refine zz_sub (npc := 0) (lv1 := [(0, .ref (eA E 57)), (1, .int x1), (2, .int 0), (3, .int 0)]) [2, 3, 1, 0] rfl ?_
  exact zX8_whoHave_L4 E l  fu x1 0 0 M
abbrev rmX8_isOver : Room := { frames := 0, cells := 0, slots := 0, locals := 0 }
theorem iX8_isOver_8 : ∀ w ∈ u_ws RX8 TX8 29, w ∈ wsX8_isOver := fun w h => List.mem_cons_of_mem _ (List.mem_append_right _ h)
noncomputable def fX8_isOver   (M : Mem) : Option (Int32 × Mem) := (ck (inb 0 56) (if (M 58 (ix 0)) = 16 then (ck (isb 1) (some (1, M))) else (ck (isb 0) (some (0, M)))))
set_option maxHeartbeats 4000000 in
set_option maxRecDepth 100000 in
theorem mtX8_isOver (E : EV) (l : Launch)    (M : Mem) : CT E l yX8_isOver wsX8_isOver rmX8_isOver vI [.ref (eA E 57)] (fX8_isOver  M) M := by
  refine ct_of (cc := cX8_isOver) (nL := 1) (ret := (some .boolean)) (by decide +kernel) rfl (Nat.le_of_ble_eq_true rfl) ?_
  show ZZ E l RX8 cX8_isOver 1 (some .boolean) wsX8_isOver rmX8_isOver vI (fX8_isOver  M) M [(0, .ref (eA E 57))] 0 []
  unfold fX8_isOver
  refine zz_aload_n (npc := 1) 0 rfl rfl dX8_isOver_0 rfl ?_
  refine zz_getR (npc := 4) (i := 0) (C0 := RX8) (T := TX8) (N := 29) (by decide) (by rfl) rfl (by decide) iX8_isOver_8 (List.mem_of_getElem? (i := 1) rfl) rfl dX8_isOver_1 rfl ?_
  refine zz_iconst (npc := 5) 0 (by decide) dX8_isOver_4 rfl ?_
  refine zz_iald (npc := 6) (by decide) (by rfl) dX8_isOver_5 rfl ?_
  refine zz_bipush (npc := 8) 16 (by decide) dX8_isOver_6 rfl ?_
  refine zz_icmp_ne (tgt := 15) (npc := 11) dX8_isOver_8 (by decide) rfl ?_ ?_
  · refine zz_iconst (npc := 16) 0 (by decide) dX8_isOver_15 rfl ?_
    exact zz_zret dX8_isOver_16
  · refine zz_iconst (npc := 12) 1 (by decide) dX8_isOver_11 rfl ?_
    refine zz_goto (npc := 0) (tgt := 16) dX8_isOver_12 (by decide) ?_
    exact zz_zret dX8_isOver_16
abbrev rmX8_of : Room := { frames := 5, cells := 0, slots := 0, locals := 115 }
theorem iX8_of_8 : ∀ w ∈ u_ws RX8 TX8 29, w ∈ wsX8_of := fun w h => List.mem_cons_of_mem _ (List.mem_append_right _ h)
noncomputable def fX8_of_L18    (M : Mem) : Option (Int32 × Mem) := (bd (fX8_finding (-1000001) M) fun r14 M13 => (some (r14, M13)))
set_option maxHeartbeats 4000000 in
set_option maxRecDepth 100000 in
theorem zX8_of_L18 (E : EV) (l : Launch)     : ∀  (M : Mem), ZZ E l RX8 cX8_of 3 (some .int) wsX8_of rmX8_of vI (fX8_of_L18 M) M [(0, .ref (eA E 57))] 18 [] := by
  intro M
  unfold fX8_of_L18
  refine zz_aload_n (npc := 19) 0 rfl rfl dX8_of_18 rfl ?_
  refine zz_ldc (npc := 21) (-1000001) (List.mem_of_getElem? (i := 1) rfl) dX8_of_19 rfl ?_
  refine zz_callVi (npc := 24) (n := 1) (As := [.int (-1000001)]) (by decide) (by rfl) rfl gX8_of_X8_finding rfl rfl rfl (by decide +kernel) ⟨Nat.le_of_ble_eq_true rfl, Nat.le_of_ble_eq_true rfl⟩ rfl rfl (Nat.le_of_ble_eq_true rfl) (mtX8_finding E l  (-1000001) M) dX8_of_21 rfl (fun r14 M13 _ => ?_)
  exact zz_iret dX8_of_24
noncomputable def fX8_of  (x1 : Int32) (x2 : Int32) (M : Mem) : Option (Int32 × Mem) := (bd (fX8_isPerson x1 M) fun r2 M1 => (if r2 = 0 then (fX8_of_L18  M1) else (bd (fX8_within x2 0 6 M1) fun r4 M3 => (if r4 = 0 then (fX8_of_L18  M3) else (if 5 ≤ x2 then (bd (fX8_isOver M3) fun r6 M5 => (if r6 = 0 then (if x2 = 5 then (ck (inb 0 56) (bd (fX8_claimOf x1 (M5 58 (ix 0)) M5) fun r10 M9 => (some (r10, M9)))) else (ck (inb 0 56) (bd (fX8_hasShadow x1 (M5 58 (ix 0)) M5) fun r8 M7 => (if r8 = 0 then (some (0, M7)) else (some (1, M7)))))) else (some (0, M5)))) else (bd (fX8_personIs x1 x2 M3) fun r12 M11 => (some (r12, M11))))))))
set_option maxHeartbeats 4000000 in
set_option maxRecDepth 100000 in
theorem mtX8_of (E : EV) (l : Launch)   (x1 : Int32) (x2 : Int32) (M : Mem) : CT E l yX8_of wsX8_of rmX8_of vI [.ref (eA E 57), .int x1, .int x2] (fX8_of x1 x2 M) M := by
  refine ct_of (cc := cX8_of) (nL := 3) (ret := (some .int)) (by decide +kernel) rfl (Nat.le_of_ble_eq_true rfl) ?_
  show ZZ E l RX8 cX8_of 3 (some .int) wsX8_of rmX8_of vI (fX8_of x1 x2 M) M [(0, .ref (eA E 57)), (1, .int x1), (2, .int x2)] 0 []
  unfold fX8_of
  refine zz_aload_n (npc := 1) 0 rfl rfl dX8_of_0 rfl ?_
  refine zz_iload_n (npc := 2) 1 rfl rfl dX8_of_1 rfl ?_
  refine zz_callVi (npc := 5) (n := 1) (As := [.int x1]) (by decide) (by rfl) rfl gX8_of_X8_isPerson rfl rfl rfl (by decide +kernel) ⟨Nat.le_of_ble_eq_true rfl, Nat.le_of_ble_eq_true rfl⟩ rfl rfl (Nat.le_of_ble_eq_true rfl) (mtX8_isPerson E l  x1 M) dX8_of_2 rfl (fun r2 M1 _ => ?_)
  refine zz_if_eq (tgt := 18) (npc := 8) dX8_of_5 (by decide) rfl ?_ ?_
  · refine zz_sub (npc := 0) (lv1 := [(0, .ref (eA E 57))]) [0] rfl ?_
    exact zX8_of_L18 E l  M1
  · refine zz_iload_n (npc := 9) 2 rfl rfl dX8_of_8 rfl ?_
    refine zz_iconst (npc := 10) 0 (by decide) dX8_of_9 rfl ?_
    refine zz_bipush (npc := 12) 6 (by decide) dX8_of_10 rfl ?_
    refine zz_callSi (npc := 15) (n := 3) (As := [.int x2, .int 0, .int 6]) gX8_of_X8_within rfl rfl rfl (by decide +kernel) ⟨Nat.le_of_ble_eq_true rfl, Nat.le_of_ble_eq_true rfl⟩ rfl rfl (Nat.le_of_ble_eq_true rfl) (mtX8_within E l  x2 0 6 M1) dX8_of_12 rfl (fun r4 M3 _ => ?_)
    refine zz_if_ne (tgt := 25) (npc := 18) dX8_of_15 (by decide) rfl ?_ ?_
    · refine zz_iload_n (npc := 26) 2 rfl rfl dX8_of_25 rfl ?_
      refine zz_iconst (npc := 27) 5 (by decide) dX8_of_26 rfl ?_
      refine zz_icmp_ge (tgt := 37) (npc := 30) dX8_of_27 (by decide) rfl ?_ ?_
      · refine zz_aload_n (npc := 38) 0 rfl rfl dX8_of_37 rfl ?_
        refine zz_callVi (npc := 41) (n := 0) (As := []) (by decide) (by rfl) rfl gX8_of_X8_isOver rfl rfl rfl (by decide +kernel) ⟨Nat.le_of_ble_eq_true rfl, Nat.le_of_ble_eq_true rfl⟩ rfl rfl (Nat.le_of_ble_eq_true rfl) (mtX8_isOver E l   M3) dX8_of_38 rfl (fun r6 M5 _ => ?_)
        refine zz_if_eq (tgt := 48) (npc := 44) dX8_of_41 (by decide) rfl ?_ ?_
        · refine zz_iload_n (npc := 49) 2 rfl rfl dX8_of_48 rfl ?_
          refine zz_iconst (npc := 50) 5 (by decide) dX8_of_49 rfl ?_
          refine zz_icmp_ne (tgt := 67) (npc := 53) dX8_of_50 (by decide) rfl ?_ ?_
          · refine zz_aload_n (npc := 68) 0 rfl rfl dX8_of_67 rfl ?_
            refine zz_iload_n (npc := 69) 1 rfl rfl dX8_of_68 rfl ?_
            refine zz_aload_n (npc := 70) 0 rfl rfl dX8_of_69 rfl ?_
            refine zz_getR (npc := 73) (i := 0) (C0 := RX8) (T := TX8) (N := 29) (by decide) (by rfl) rfl (by decide) iX8_of_8 (List.mem_of_getElem? (i := 2) rfl) rfl dX8_of_70 rfl ?_
            refine zz_iconst (npc := 74) 0 (by decide) dX8_of_73 rfl ?_
            refine zz_iald (npc := 75) (by decide) (by rfl) dX8_of_74 rfl ?_
            refine zz_callVi (npc := 78) (n := 2) (As := [.int x1, .int (M5 58 (ix 0))]) (by decide) (by rfl) rfl gX8_of_X8_hasShadow rfl rfl rfl (by decide +kernel) ⟨Nat.le_of_ble_eq_true rfl, Nat.le_of_ble_eq_true rfl⟩ rfl rfl (Nat.le_of_ble_eq_true rfl) (mtX8_hasShadow E l  x1 (M5 58 (ix 0)) M5) dX8_of_75 rfl (fun r8 M7 _ => ?_)
            refine zz_if_eq (tgt := 85) (npc := 81) dX8_of_78 (by decide) rfl ?_ ?_
            · refine zz_iconst (npc := 86) 0 (by decide) dX8_of_85 rfl ?_
              exact zz_iret dX8_of_86
            · refine zz_iconst (npc := 82) 1 (by decide) dX8_of_81 rfl ?_
              refine zz_goto (npc := 0) (tgt := 86) dX8_of_82 (by decide) ?_
              exact zz_iret dX8_of_86
          · refine zz_aload_n (npc := 54) 0 rfl rfl dX8_of_53 rfl ?_
            refine zz_iload_n (npc := 55) 1 rfl rfl dX8_of_54 rfl ?_
            refine zz_aload_n (npc := 56) 0 rfl rfl dX8_of_55 rfl ?_
            refine zz_getR (npc := 59) (i := 0) (C0 := RX8) (T := TX8) (N := 29) (by decide) (by rfl) rfl (by decide) iX8_of_8 (List.mem_of_getElem? (i := 2) rfl) rfl dX8_of_56 rfl ?_
            refine zz_iconst (npc := 60) 0 (by decide) dX8_of_59 rfl ?_
            refine zz_iald (npc := 61) (by decide) (by rfl) dX8_of_60 rfl ?_
            refine zz_callVi (npc := 64) (n := 2) (As := [.int x1, .int (M5 58 (ix 0))]) (by decide) (by rfl) rfl gX8_of_X8_claimOf rfl rfl rfl (by decide +kernel) ⟨Nat.le_of_ble_eq_true rfl, Nat.le_of_ble_eq_true rfl⟩ rfl rfl (Nat.le_of_ble_eq_true rfl) (mtX8_claimOf E l  x1 (M5 58 (ix 0)) M5) dX8_of_61 rfl (fun r10 M9 _ => ?_)
            refine zz_goto (npc := 0) (tgt := 86) dX8_of_64 (by decide) ?_
            exact zz_iret dX8_of_86
        · refine zz_iconst (npc := 45) 0 (by decide) dX8_of_44 rfl ?_
          refine zz_goto (npc := 0) (tgt := 86) dX8_of_45 (by decide) ?_
          exact zz_iret dX8_of_86
      · refine zz_aload_n (npc := 31) 0 rfl rfl dX8_of_30 rfl ?_
        refine zz_iload_n (npc := 32) 1 rfl rfl dX8_of_31 rfl ?_
        refine zz_iload_n (npc := 33) 2 rfl rfl dX8_of_32 rfl ?_
        refine zz_callVi (npc := 36) (n := 2) (As := [.int x1, .int x2]) (by decide) (by rfl) rfl gX8_of_X8_personIs rfl rfl rfl (by decide +kernel) ⟨Nat.le_of_ble_eq_true rfl, Nat.le_of_ble_eq_true rfl⟩ rfl rfl (Nat.le_of_ble_eq_true rfl) (mtX8_personIs E l  x1 x2 M3) dX8_of_33 rfl (fun r12 M11 _ => ?_)
        exact zz_iret dX8_of_36
    · refine zz_sub (npc := 0) (lv1 := [(0, .ref (eA E 57))]) [0] rfl ?_
      exact zX8_of_L18 E l  M3
abbrev rmX8_change : Room := { frames := 2, cells := 0, slots := 0, locals := 43 }
noncomputable def fX8_change_L86    (M : Mem) : Option (Int32 × Mem) := (bd (fX8_finding (-1000001) M) fun r16 M15 => (some (r16, M15)))
set_option maxHeartbeats 4000000 in
set_option maxRecDepth 100000 in
theorem zX8_change_L86 (E : EV) (l : Launch)     : ∀  (M : Mem), ZZ E l RX8 cX8_change 5 (some .int) wsX8_change rmX8_change vI (fX8_change_L86 M) M [(0, .ref (eA E 57))] 86 [] := by
  intro M
  unfold fX8_change_L86
  refine zz_aload_n (npc := 87) 0 rfl rfl dX8_change_86 rfl ?_
  refine zz_ldc (npc := 89) (-1000001) (List.mem_of_getElem? (i := 1) rfl) dX8_change_87 rfl ?_
  refine zz_callVi (npc := 92) (n := 1) (As := [.int (-1000001)]) (by decide) (by rfl) rfl gX8_change_X8_finding rfl rfl rfl (by decide +kernel) ⟨Nat.le_of_ble_eq_true rfl, Nat.le_of_ble_eq_true rfl⟩ rfl rfl (Nat.le_of_ble_eq_true rfl) (mtX8_finding E l  (-1000001) M) dX8_change_89 rfl (fun r16 M15 _ => ?_)
  exact zz_iret dX8_change_92
noncomputable def fX8_change_L58   (y1 : Int32) (y2 : Int32) (y3 : Int32) (w0 : Int32) (M : Mem) : Option (Int32 × Mem) := (bd (fX8_isPerson y1 M) fun r8 M7 => (if r8 = 0 then (fX8_change_L86  M7) else (if w0 = 0 then (fX8_change_L86  M7) else (bd (fX8_at y1 y2 M7) fun r10 M9 => (bd (fX8_become r10 y3 M9) fun r12 M11 => (some (r12, M11)))))))
set_option maxHeartbeats 4000000 in
set_option maxRecDepth 100000 in
theorem zX8_change_L58 (E : EV) (l : Launch)     : ∀ (y1 : Int32) (y2 : Int32) (y3 : Int32) (w0 : Int32) (M : Mem), ZZ E l RX8 cX8_change 5 (some .int) wsX8_change rmX8_change vI (fX8_change_L58 y1 y2 y3 w0 M) M [(0, .ref (eA E 57)), (1, .int y1), (2, .int y2), (3, .int y3)] 58 [.int w0] := by
  intro y1 y2 y3 w0 M
  unfold fX8_change_L58
  refine zz_istore (npc := 60) (lv1 := [(4, .int w0), (0, .ref (eA E 57)), (1, .int y1), (2, .int y2), (3, .int y3)]) dX8_change_58 rfl (by decide) rfl ?_
  refine zz_aload_n (npc := 61) 1 rfl rfl dX8_change_60 rfl ?_
  refine zz_iload_n (npc := 62) 2 rfl rfl dX8_change_61 rfl ?_
  refine zz_callVi (npc := 65) (n := 1) (As := [.int y1]) (by decide) (by rfl) rfl gX8_change_X8_isPerson rfl rfl rfl (by decide +kernel) ⟨Nat.le_of_ble_eq_true rfl, Nat.le_of_ble_eq_true rfl⟩ rfl rfl (Nat.le_of_ble_eq_true rfl) (mtX8_isPerson E l  y1 M) dX8_change_62 rfl (fun r8 M7 _ => ?_)
  refine zz_if_eq (tgt := 86) (npc := 68) dX8_change_65 (by decide) rfl ?_ ?_
  · refine zz_sub (npc := 0) (lv1 := [(0, .ref (eA E 57))]) [1] rfl ?_
    exact zX8_change_L86 E l  M7
  · refine zz_iload (npc := 70) 0 rfl dX8_change_68 rfl ?_
    refine zz_if_eq (tgt := 86) (npc := 73) dX8_change_70 (by decide) rfl ?_ ?_
    · refine zz_sub (npc := 0) (lv1 := [(0, .ref (eA E 57))]) [1] rfl ?_
      exact zX8_change_L86 E l  M7
    · refine zz_aload_n (npc := 74) 1 rfl rfl dX8_change_73 rfl ?_
      refine zz_iload_n (npc := 75) 2 rfl rfl dX8_change_74 rfl ?_
      refine zz_iload_n (npc := 76) 3 rfl rfl dX8_change_75 rfl ?_
      refine zz_callSi (npc := 79) (n := 2) (As := [.int y1, .int y2]) gX8_change_X8_at rfl rfl rfl (by decide +kernel) ⟨Nat.le_of_ble_eq_true rfl, Nat.le_of_ble_eq_true rfl⟩ rfl rfl (Nat.le_of_ble_eq_true rfl) (mtX8_at E l  y1 y2 M7) dX8_change_76 rfl (fun r10 M9 _ => ?_)
      refine zz_iload_n (npc := 80) 4 rfl rfl dX8_change_79 rfl ?_
      refine zz_callVi (npc := 83) (n := 2) (As := [.int r10, .int y3]) (by decide) (by rfl) rfl gX8_change_X8_become rfl rfl rfl (by decide +kernel) ⟨Nat.le_of_ble_eq_true rfl, Nat.le_of_ble_eq_true rfl⟩ rfl rfl (Nat.le_of_ble_eq_true rfl) (mtX8_become E l  r10 y3 M9) dX8_change_80 rfl (fun r12 M11 _ => ?_)
      refine zz_goto (npc := 0) (tgt := 92) dX8_change_83 (by decide) ?_
      exact zz_iret dX8_change_92
noncomputable def fX8_change_L53   (y1 : Int32) (y2 : Int32) (y3 : Int32) (M : Mem) : Option (Int32 × Mem) := (fX8_change_L58  y1 y2 y3 1 M)
set_option maxHeartbeats 4000000 in
set_option maxRecDepth 100000 in
theorem zX8_change_L53 (E : EV) (l : Launch)     : ∀ (y1 : Int32) (y2 : Int32) (y3 : Int32) (M : Mem), ZZ E l RX8 cX8_change 5 (some .int) wsX8_change rmX8_change vI (fX8_change_L53 y1 y2 y3 M) M [(0, .ref (eA E 57)), (1, .int y1), (2, .int y2), (3, .int y3)] 53 [] := by
  intro y1 y2 y3 M
  unfold fX8_change_L53
  refine zz_iconst (npc := 54) 1 (by decide) dX8_change_53 rfl ?_
  refine zz_goto (npc := 0) (tgt := 58) dX8_change_54 (by decide) ?_
  exact zX8_change_L58 E l  y1 y2 y3 1 M
noncomputable def fX8_change_L57   (y1 : Int32) (y2 : Int32) (y3 : Int32) (M : Mem) : Option (Int32 × Mem) := (fX8_change_L58  y1 y2 y3 0 M)
set_option maxHeartbeats 4000000 in
set_option maxRecDepth 100000 in
theorem zX8_change_L57 (E : EV) (l : Launch)     : ∀ (y1 : Int32) (y2 : Int32) (y3 : Int32) (M : Mem), ZZ E l RX8 cX8_change 5 (some .int) wsX8_change rmX8_change vI (fX8_change_L57 y1 y2 y3 M) M [(0, .ref (eA E 57)), (1, .int y1), (2, .int y2), (3, .int y3)] 57 [] := by
  intro y1 y2 y3 M
  unfold fX8_change_L57
  refine zz_iconst (npc := 58) 0 (by decide) dX8_change_57 rfl ?_
  exact zX8_change_L58 E l  y1 y2 y3 0 M
noncomputable def fX8_change_L41   (y1 : Int32) (y2 : Int32) (y3 : Int32) (M : Mem) : Option (Int32 × Mem) := (if y2 = 3 then (bd (fX8_isHours y3 M) fun r14 M13 => (if r14 = 0 then (fX8_change_L57  y1 y2 y3 M13) else (fX8_change_L53  y1 y2 y3 M13))) else (fX8_change_L57  y1 y2 y3 M))
set_option maxHeartbeats 4000000 in
set_option maxRecDepth 100000 in
theorem zX8_change_L41 (E : EV) (l : Launch)     : ∀ (y1 : Int32) (y2 : Int32) (y3 : Int32) (M : Mem), ZZ E l RX8 cX8_change 5 (some .int) wsX8_change rmX8_change vI (fX8_change_L41 y1 y2 y3 M) M [(0, .ref (eA E 57)), (1, .int y1), (2, .int y2), (3, .int y3)] 41 [] := by
  intro y1 y2 y3 M
  unfold fX8_change_L41
  refine zz_iload_n (npc := 42) 2 rfl rfl dX8_change_41 rfl ?_
  refine zz_iconst (npc := 43) 3 (by decide) dX8_change_42 rfl ?_
  refine zz_icmp_ne (tgt := 57) (npc := 46) dX8_change_43 (by decide) rfl ?_ ?_
  · exact zX8_change_L57 E l  y1 y2 y3 M
  · refine zz_iload_n (npc := 47) 3 rfl rfl dX8_change_46 rfl ?_
    refine zz_callSi (npc := 50) (n := 1) (As := [.int y3]) gX8_change_X8_isHours rfl rfl rfl (by decide +kernel) ⟨Nat.le_of_ble_eq_true rfl, Nat.le_of_ble_eq_true rfl⟩ rfl rfl (Nat.le_of_ble_eq_true rfl) (mtX8_isHours E l  y3 M) dX8_change_47 rfl (fun r14 M13 _ => ?_)
    refine zz_if_eq (tgt := 57) (npc := 53) dX8_change_50 (by decide) rfl ?_ ?_
    · exact zX8_change_L57 E l  y1 y2 y3 M13
    · exact zX8_change_L53 E l  y1 y2 y3 M13
noncomputable def fX8_change_L26   (y1 : Int32) (y2 : Int32) (y3 : Int32) (M : Mem) : Option (Int32 × Mem) := (if y2 = 2 then (bd (fX8_within y3 0 9 M) fun r6 M5 => (if r6 = 0 then (fX8_change_L41  y1 y2 y3 M5) else (fX8_change_L53  y1 y2 y3 M5))) else (fX8_change_L41  y1 y2 y3 M))
set_option maxHeartbeats 4000000 in
set_option maxRecDepth 100000 in
theorem zX8_change_L26 (E : EV) (l : Launch)     : ∀ (y1 : Int32) (y2 : Int32) (y3 : Int32) (M : Mem), ZZ E l RX8 cX8_change 5 (some .int) wsX8_change rmX8_change vI (fX8_change_L26 y1 y2 y3 M) M [(0, .ref (eA E 57)), (1, .int y1), (2, .int y2), (3, .int y3)] 26 [] := by
  intro y1 y2 y3 M
  unfold fX8_change_L26
  refine zz_iload_n (npc := 27) 2 rfl rfl dX8_change_26 rfl ?_
  refine zz_iconst (npc := 28) 2 (by decide) dX8_change_27 rfl ?_
  refine zz_icmp_ne (tgt := 41) (npc := 31) dX8_change_28 (by decide) rfl ?_ ?_
  · exact zX8_change_L41 E l  y1 y2 y3 M
  · refine zz_iload_n (npc := 32) 3 rfl rfl dX8_change_31 rfl ?_
    refine zz_iconst (npc := 33) 0 (by decide) dX8_change_32 rfl ?_
    refine zz_bipush (npc := 35) 9 (by decide) dX8_change_33 rfl ?_
    refine zz_callSi (npc := 38) (n := 3) (As := [.int y3, .int 0, .int 9]) gX8_change_X8_within rfl rfl rfl (by decide +kernel) ⟨Nat.le_of_ble_eq_true rfl, Nat.le_of_ble_eq_true rfl⟩ rfl rfl (Nat.le_of_ble_eq_true rfl) (mtX8_within E l  y3 0 9 M) dX8_change_35 rfl (fun r6 M5 _ => ?_)
    refine zz_if_ne (tgt := 53) (npc := 41) dX8_change_38 (by decide) rfl ?_ ?_
    · exact zX8_change_L53 E l  y1 y2 y3 M5
    · exact zX8_change_L41 E l  y1 y2 y3 M5
noncomputable def fX8_change_L11   (y1 : Int32) (y2 : Int32) (y3 : Int32) (M : Mem) : Option (Int32 × Mem) := (if y2 = 1 then (bd (fX8_within y3 0 99 M) fun r4 M3 => (if r4 = 0 then (fX8_change_L26  y1 y2 y3 M3) else (fX8_change_L53  y1 y2 y3 M3))) else (fX8_change_L26  y1 y2 y3 M))
set_option maxHeartbeats 4000000 in
set_option maxRecDepth 100000 in
theorem zX8_change_L11 (E : EV) (l : Launch)     : ∀ (y1 : Int32) (y2 : Int32) (y3 : Int32) (M : Mem), ZZ E l RX8 cX8_change 5 (some .int) wsX8_change rmX8_change vI (fX8_change_L11 y1 y2 y3 M) M [(0, .ref (eA E 57)), (1, .int y1), (2, .int y2), (3, .int y3)] 11 [] := by
  intro y1 y2 y3 M
  unfold fX8_change_L11
  refine zz_iload_n (npc := 12) 2 rfl rfl dX8_change_11 rfl ?_
  refine zz_iconst (npc := 13) 1 (by decide) dX8_change_12 rfl ?_
  refine zz_icmp_ne (tgt := 26) (npc := 16) dX8_change_13 (by decide) rfl ?_ ?_
  · exact zX8_change_L26 E l  y1 y2 y3 M
  · refine zz_iload_n (npc := 17) 3 rfl rfl dX8_change_16 rfl ?_
    refine zz_iconst (npc := 18) 0 (by decide) dX8_change_17 rfl ?_
    refine zz_bipush (npc := 20) 99 (by decide) dX8_change_18 rfl ?_
    refine zz_callSi (npc := 23) (n := 3) (As := [.int y3, .int 0, .int 99]) gX8_change_X8_within rfl rfl rfl (by decide +kernel) ⟨Nat.le_of_ble_eq_true rfl, Nat.le_of_ble_eq_true rfl⟩ rfl rfl (Nat.le_of_ble_eq_true rfl) (mtX8_within E l  y3 0 99 M) dX8_change_20 rfl (fun r4 M3 _ => ?_)
    refine zz_if_ne (tgt := 53) (npc := 26) dX8_change_23 (by decide) rfl ?_ ?_
    · exact zX8_change_L53 E l  y1 y2 y3 M3
    · exact zX8_change_L26 E l  y1 y2 y3 M3
noncomputable def fX8_change  (x1 : Int32) (x2 : Int32) (x3 : Int32) (M : Mem) : Option (Int32 × Mem) := (if x2 = 0 then (bd (fX8_isKind x3 M) fun r2 M1 => (if r2 = 0 then (fX8_change_L11  x1 x2 x3 M1) else (fX8_change_L53  x1 x2 x3 M1))) else (fX8_change_L11  x1 x2 x3 M))
set_option maxHeartbeats 4000000 in
set_option maxRecDepth 100000 in
theorem mtX8_change (E : EV) (l : Launch)   (x1 : Int32) (x2 : Int32) (x3 : Int32) (M : Mem) : CT E l yX8_change wsX8_change rmX8_change vI [.ref (eA E 57), .int x1, .int x2, .int x3] (fX8_change x1 x2 x3 M) M := by
  refine ct_of (cc := cX8_change) (nL := 5) (ret := (some .int)) (by decide +kernel) rfl (Nat.le_of_ble_eq_true rfl) ?_
  show ZZ E l RX8 cX8_change 5 (some .int) wsX8_change rmX8_change vI (fX8_change x1 x2 x3 M) M [(0, .ref (eA E 57)), (1, .int x1), (2, .int x2), (3, .int x3)] 0 []
  unfold fX8_change
  refine zz_iload_n (npc := 1) 2 rfl rfl dX8_change_0 rfl ?_
  refine zz_if_ne (tgt := 11) (npc := 4) dX8_change_1 (by decide) rfl ?_ ?_
  · exact zX8_change_L11 E l  x1 x2 x3 M
  · refine zz_iload_n (npc := 5) 3 rfl rfl dX8_change_4 rfl ?_
    refine zz_callSi (npc := 8) (n := 1) (As := [.int x3]) gX8_change_X8_isKind rfl rfl rfl (by decide +kernel) ⟨Nat.le_of_ble_eq_true rfl, Nat.le_of_ble_eq_true rfl⟩ rfl rfl (Nat.le_of_ble_eq_true rfl) (mtX8_isKind E l  x3 M) dX8_change_5 rfl (fun r2 M1 _ => ?_)
    refine zz_if_ne (tgt := 53) (npc := 11) dX8_change_8 (by decide) rfl ?_ ?_
    · exact zX8_change_L53 E l  x1 x2 x3 M1
    · exact zX8_change_L11 E l  x1 x2 x3 M1
abbrev rmX8_parts : Room := { frames := 1, cells := 0, slots := 0, locals := 23 }
theorem iX8_parts_8 : ∀ w ∈ u_ws RX8 TX8 29, w ∈ wsX8_parts := fun w h => List.mem_cons_of_mem _ (List.mem_append_right _ h)
noncomputable def fX8_parts  (x1 : Int32) (M : Mem) : Option (Int32 × Mem) := (bd (fX8_at x1 4 M) fun r2 M1 => (bd (fX8_become r2 (-1) M1) fun r4 M3 => (if r4 < 0 then (some (r4, M3)) else (bd (fX8_at r4 4 M3) fun r6 M5 => (ck (inb r6 56) (wm (wr M5 58 (ix r6) (-1)) fun M7 => (some (r4, M7))))))))
set_option maxHeartbeats 4000000 in
set_option maxRecDepth 100000 in
theorem mtX8_parts (E : EV) (l : Launch)   (x1 : Int32) (M : Mem) : CT E l yX8_parts wsX8_parts rmX8_parts vI [.ref (eA E 57), .int x1] (fX8_parts x1 M) M := by
  refine ct_of (cc := cX8_parts) (nL := 3) (ret := (some .int)) (by decide +kernel) rfl (Nat.le_of_ble_eq_true rfl) ?_
  show ZZ E l RX8 cX8_parts 3 (some .int) wsX8_parts rmX8_parts vI (fX8_parts x1 M) M [(0, .ref (eA E 57)), (1, .int x1)] 0 []
  unfold fX8_parts
  refine zz_aload_n (npc := 1) 0 rfl rfl dX8_parts_0 rfl ?_
  refine zz_iload_n (npc := 2) 1 rfl rfl dX8_parts_1 rfl ?_
  refine zz_iconst (npc := 3) 4 (by decide) dX8_parts_2 rfl ?_
  refine zz_callSi (npc := 6) (n := 2) (As := [.int x1, .int 4]) gX8_parts_X8_at rfl rfl rfl (by decide +kernel) ⟨Nat.le_of_ble_eq_true rfl, Nat.le_of_ble_eq_true rfl⟩ rfl rfl (Nat.le_of_ble_eq_true rfl) (mtX8_at E l  x1 4 M) dX8_parts_3 rfl (fun r2 M1 _ => ?_)
  refine zz_iconst (npc := 7) (-1) (by decide) dX8_parts_6 rfl ?_
  refine zz_callVi (npc := 10) (n := 2) (As := [.int r2, .int (-1)]) (by decide) (by rfl) rfl gX8_parts_X8_become rfl rfl rfl (by decide +kernel) ⟨Nat.le_of_ble_eq_true rfl, Nat.le_of_ble_eq_true rfl⟩ rfl rfl (Nat.le_of_ble_eq_true rfl) (mtX8_become E l  r2 (-1) M1) dX8_parts_7 rfl (fun r4 M3 _ => ?_)
  refine zz_istore_n (npc := 11) (lv1 := [(2, .int r4), (0, .ref (eA E 57)), (1, .int x1)]) rfl dX8_parts_10 rfl (by decide) rfl ?_
  refine zz_iload_n (npc := 12) 0 rfl rfl dX8_parts_11 rfl ?_
  refine zz_if_lt (tgt := 26) (npc := 15) dX8_parts_12 (by decide) rfl ?_ ?_
  · refine zz_iload_n (npc := 27) 0 rfl rfl dX8_parts_26 rfl ?_
    exact zz_iret dX8_parts_27
  · refine zz_aload_n (npc := 16) 1 rfl rfl dX8_parts_15 rfl ?_
    refine zz_getR (npc := 19) (i := 0) (C0 := RX8) (T := TX8) (N := 29) (by decide) (by rfl) rfl (by decide) iX8_parts_8 (List.mem_of_getElem? (i := 1) rfl) rfl dX8_parts_16 rfl ?_
    refine zz_iload_n (npc := 20) 0 rfl rfl dX8_parts_19 rfl ?_
    refine zz_iconst (npc := 21) 4 (by decide) dX8_parts_20 rfl ?_
    refine zz_callSi (npc := 24) (n := 2) (As := [.int r4, .int 4]) gX8_parts_X8_at rfl rfl rfl (by decide +kernel) ⟨Nat.le_of_ble_eq_true rfl, Nat.le_of_ble_eq_true rfl⟩ rfl rfl (Nat.le_of_ble_eq_true rfl) (mtX8_at E l  r4 4 M3) dX8_parts_21 rfl (fun r6 M5 _ => ?_)
    refine zz_iconst (npc := 25) (-1) (by decide) dX8_parts_24 rfl ?_
    refine zz_iast (npc := 26) (by decide) (by rfl) dX8_parts_25 rfl (fun M7 => ?_)
    refine zz_iload_n (npc := 27) 0 rfl rfl dX8_parts_26 rfl ?_
    exact zz_iret dX8_parts_27
abbrev rmX8_areMates : Room := { frames := 2, cells := 0, slots := 0, locals := 45 }
theorem iX8_areMates_8 : ∀ w ∈ u_ws RX8 TX8 29, w ∈ wsX8_areMates := fun w h => List.mem_cons_of_mem _ (List.mem_append_right _ h)
noncomputable def fX8_areMates  (x1 : Int32) (x2 : Int32) (M : Mem) : Option (Int32 × Mem) := (bd (fX8_personIs x1 4 M) fun r2 M1 => (if r2 = x2 then (some (0, M1)) else (bd (fX8_parts x1 M1) fun r4 M3 => (bd (fX8_parts x2 M3) fun r6 M5 => (bv (r4 + r6) fun v7 => (bd (fX8_at x1 4 M5) fun r9 M8 => (ck (inb r9 56) (wm (wr M8 58 (ix r9) x2) fun M10 => (bd (fX8_at x2 4 M10) fun r12 M11 => (ck (inb r12 56) (wm (wr M11 58 (ix r12) x1) fun M13 => (if (-2) ≤ v7 then (some (1, M13)) else (some (0, M13))))))))))))))
set_option maxHeartbeats 4000000 in
set_option maxRecDepth 100000 in
theorem mtX8_areMates (E : EV) (l : Launch)   (x1 : Int32) (x2 : Int32) (M : Mem) : CT E l yX8_areMates wsX8_areMates rmX8_areMates vI [.ref (eA E 57), .int x1, .int x2] (fX8_areMates x1 x2 M) M := by
  refine ct_of (cc := cX8_areMates) (nL := 4) (ret := (some .int)) (by decide +kernel) rfl (Nat.le_of_ble_eq_true rfl) ?_
  show ZZ E l RX8 cX8_areMates 4 (some .int) wsX8_areMates rmX8_areMates vI (fX8_areMates x1 x2 M) M [(0, .ref (eA E 57)), (1, .int x1), (2, .int x2)] 0 []
  unfold fX8_areMates
  refine zz_aload_n (npc := 1) 0 rfl rfl dX8_areMates_0 rfl ?_
  refine zz_iload_n (npc := 2) 1 rfl rfl dX8_areMates_1 rfl ?_
  refine zz_iconst (npc := 3) 4 (by decide) dX8_areMates_2 rfl ?_
  refine zz_callVi (npc := 6) (n := 2) (As := [.int x1, .int 4]) (by decide) (by rfl) rfl gX8_areMates_X8_personIs rfl rfl rfl (by decide +kernel) ⟨Nat.le_of_ble_eq_true rfl, Nat.le_of_ble_eq_true rfl⟩ rfl rfl (Nat.le_of_ble_eq_true rfl) (mtX8_personIs E l  x1 4 M) dX8_areMates_3 rfl (fun r2 M1 _ => ?_)
  refine zz_iload_n (npc := 7) 2 rfl rfl dX8_areMates_6 rfl ?_
  refine zz_icmp_ne (tgt := 12) (npc := 10) dX8_areMates_7 (by decide) rfl ?_ ?_
  · refine zz_aload_n (npc := 13) 0 rfl rfl dX8_areMates_12 rfl ?_
    refine zz_iload_n (npc := 14) 1 rfl rfl dX8_areMates_13 rfl ?_
    refine zz_callVi (npc := 17) (n := 1) (As := [.int x1]) (by decide) (by rfl) rfl gX8_areMates_X8_parts rfl rfl rfl (by decide +kernel) ⟨Nat.le_of_ble_eq_true rfl, Nat.le_of_ble_eq_true rfl⟩ rfl rfl (Nat.le_of_ble_eq_true rfl) (mtX8_parts E l  x1 M1) dX8_areMates_14 rfl (fun r4 M3 _ => ?_)
    refine zz_istore_n (npc := 18) (lv1 := [(3, .int r4), (0, .ref (eA E 57)), (1, .int x1), (2, .int x2)]) rfl dX8_areMates_17 rfl (by decide) rfl ?_
    refine zz_iload_n (npc := 19) 0 rfl rfl dX8_areMates_18 rfl ?_
    refine zz_aload_n (npc := 20) 1 rfl rfl dX8_areMates_19 rfl ?_
    refine zz_iload_n (npc := 21) 3 rfl rfl dX8_areMates_20 rfl ?_
    refine zz_callVi (npc := 24) (n := 1) (As := [.int x2]) (by decide) (by rfl) rfl gX8_areMates_X8_parts rfl rfl rfl (by decide +kernel) ⟨Nat.le_of_ble_eq_true rfl, Nat.le_of_ble_eq_true rfl⟩ rfl rfl (Nat.le_of_ble_eq_true rfl) (mtX8_parts E l  x2 M3) dX8_areMates_21 rfl (fun r6 M5 _ => ?_)
    refine zz_iadd (npc := 25) dX8_areMates_24 rfl ?_
    refine zz_istore_nB (npc := 26) (lv1 := fun v7 => [(3, .int v7), (0, .ref (eA E 57)), (1, .int x1), (2, .int x2)]) rfl dX8_areMates_25 rfl (by decide) (fun _ => rfl) (fun v7 => ?_)
    refine zz_aload_n (npc := 27) 1 rfl rfl dX8_areMates_26 rfl ?_
    refine zz_getR (npc := 30) (i := 0) (C0 := RX8) (T := TX8) (N := 29) (by decide) (by rfl) rfl (by decide) iX8_areMates_8 (List.mem_of_getElem? (i := 1) rfl) rfl dX8_areMates_27 rfl ?_
    refine zz_iload_n (npc := 31) 2 rfl rfl dX8_areMates_30 rfl ?_
    refine zz_iconst (npc := 32) 4 (by decide) dX8_areMates_31 rfl ?_
    refine zz_callSi (npc := 35) (n := 2) (As := [.int x1, .int 4]) gX8_areMates_X8_at rfl rfl rfl (by decide +kernel) ⟨Nat.le_of_ble_eq_true rfl, Nat.le_of_ble_eq_true rfl⟩ rfl rfl (Nat.le_of_ble_eq_true rfl) (mtX8_at E l  x1 4 M5) dX8_areMates_32 rfl (fun r9 M8 _ => ?_)
    refine zz_iload_n (npc := 36) 3 rfl rfl dX8_areMates_35 rfl ?_
    refine zz_iast (npc := 37) (by decide) (by rfl) dX8_areMates_36 rfl (fun M10 => ?_)
    refine zz_aload_n (npc := 38) 1 rfl rfl dX8_areMates_37 rfl ?_
    refine zz_getR (npc := 41) (i := 0) (C0 := RX8) (T := TX8) (N := 29) (by decide) (by rfl) rfl (by decide) iX8_areMates_8 (List.mem_of_getElem? (i := 1) rfl) rfl dX8_areMates_38 rfl ?_
    refine zz_iload_n (npc := 42) 3 rfl rfl dX8_areMates_41 rfl ?_
    refine zz_iconst (npc := 43) 4 (by decide) dX8_areMates_42 rfl ?_
    refine zz_callSi (npc := 46) (n := 2) (As := [.int x2, .int 4]) gX8_areMates_X8_at rfl rfl rfl (by decide +kernel) ⟨Nat.le_of_ble_eq_true rfl, Nat.le_of_ble_eq_true rfl⟩ rfl rfl (Nat.le_of_ble_eq_true rfl) (mtX8_at E l  x2 4 M10) dX8_areMates_43 rfl (fun r12 M11 _ => ?_)
    refine zz_iload_n (npc := 47) 2 rfl rfl dX8_areMates_46 rfl ?_
    refine zz_iast (npc := 48) (by decide) (by rfl) dX8_areMates_47 rfl (fun M13 => ?_)
    refine zz_iload_n (npc := 49) 0 rfl rfl dX8_areMates_48 rfl ?_
    refine zz_bipush (npc := 51) (-2) (by decide) dX8_areMates_49 rfl ?_
    refine zz_icmp_ge (tgt := 58) (npc := 54) dX8_areMates_51 (by decide) rfl ?_ ?_
    · refine zz_iconst (npc := 59) 1 (by decide) dX8_areMates_58 rfl ?_
      exact zz_iret dX8_areMates_59
    · refine zz_iconst (npc := 55) 0 (by decide) dX8_areMates_54 rfl ?_
      refine zz_goto (npc := 0) (tgt := 59) dX8_areMates_55 (by decide) ?_
      exact zz_iret dX8_areMates_59
  · refine zz_iconst (npc := 11) 0 (by decide) dX8_areMates_10 rfl ?_
    exact zz_iret dX8_areMates_11
abbrev rmX8_areTwo : Room := { frames := 2, cells := 0, slots := 0, locals := 43 }
noncomputable def fX8_areTwo  (x1 : Int32) (x2 : Int32) (M : Mem) : Option (Int32 × Mem) := (bd (fX8_isPerson x1 M) fun r2 M1 => (if r2 = 0 then (ck (isb 0) (some (0, M1))) else (bd (fX8_isPerson x2 M1) fun r4 M3 => (if r4 = 0 then (ck (isb 0) (some (0, M3))) else (if x1 = x2 then (ck (isb 0) (some (0, M3))) else (ck (isb 1) (some (1, M3))))))))
set_option maxHeartbeats 4000000 in
set_option maxRecDepth 100000 in
theorem mtX8_areTwo (E : EV) (l : Launch)   (x1 : Int32) (x2 : Int32) (M : Mem) : CT E l yX8_areTwo wsX8_areTwo rmX8_areTwo vI [.ref (eA E 57), .int x1, .int x2] (fX8_areTwo x1 x2 M) M := by
  refine ct_of (cc := cX8_areTwo) (nL := 3) (ret := (some .boolean)) (by decide +kernel) rfl (Nat.le_of_ble_eq_true rfl) ?_
  show ZZ E l RX8 cX8_areTwo 3 (some .boolean) wsX8_areTwo rmX8_areTwo vI (fX8_areTwo x1 x2 M) M [(0, .ref (eA E 57)), (1, .int x1), (2, .int x2)] 0 []
  unfold fX8_areTwo
  refine zz_aload_n (npc := 1) 0 rfl rfl dX8_areTwo_0 rfl ?_
  refine zz_iload_n (npc := 2) 1 rfl rfl dX8_areTwo_1 rfl ?_
  refine zz_callVi (npc := 5) (n := 1) (As := [.int x1]) (by decide) (by rfl) rfl gX8_areTwo_X8_isPerson rfl rfl rfl (by decide +kernel) ⟨Nat.le_of_ble_eq_true rfl, Nat.le_of_ble_eq_true rfl⟩ rfl rfl (Nat.le_of_ble_eq_true rfl) (mtX8_isPerson E l  x1 M) dX8_areTwo_2 rfl (fun r2 M1 _ => ?_)
  refine zz_if_eq (tgt := 25) (npc := 8) dX8_areTwo_5 (by decide) rfl ?_ ?_
  · refine zz_iconst (npc := 26) 0 (by decide) dX8_areTwo_25 rfl ?_
    exact zz_zret dX8_areTwo_26
  · refine zz_aload_n (npc := 9) 0 rfl rfl dX8_areTwo_8 rfl ?_
    refine zz_iload_n (npc := 10) 2 rfl rfl dX8_areTwo_9 rfl ?_
    refine zz_callVi (npc := 13) (n := 1) (As := [.int x2]) (by decide) (by rfl) rfl gX8_areTwo_X8_isPerson rfl rfl rfl (by decide +kernel) ⟨Nat.le_of_ble_eq_true rfl, Nat.le_of_ble_eq_true rfl⟩ rfl rfl (Nat.le_of_ble_eq_true rfl) (mtX8_isPerson E l  x2 M1) dX8_areTwo_10 rfl (fun r4 M3 _ => ?_)
    refine zz_if_eq (tgt := 25) (npc := 16) dX8_areTwo_13 (by decide) rfl ?_ ?_
    · refine zz_iconst (npc := 26) 0 (by decide) dX8_areTwo_25 rfl ?_
      exact zz_zret dX8_areTwo_26
    · refine zz_iload_n (npc := 17) 1 rfl rfl dX8_areTwo_16 rfl ?_
      refine zz_iload_n (npc := 18) 2 rfl rfl dX8_areTwo_17 rfl ?_
      refine zz_icmp_eq (tgt := 25) (npc := 21) dX8_areTwo_18 (by decide) rfl ?_ ?_
      · refine zz_iconst (npc := 26) 0 (by decide) dX8_areTwo_25 rfl ?_
        exact zz_zret dX8_areTwo_26
      · refine zz_iconst (npc := 22) 1 (by decide) dX8_areTwo_21 rfl ?_
        refine zz_goto (npc := 0) (tgt := 26) dX8_areTwo_22 (by decide) ?_
        exact zz_zret dX8_areTwo_26
abbrev rmX8_share : Room := { frames := 3, cells := 0, slots := 0, locals := 68 }
noncomputable def fX8_share  (x1 : Int32) (x2 : Int32) (M : Mem) : Option (Int32 × Mem) := (bd (fX8_areTwo x1 x2 M) fun r2 M1 => (if r2 = 0 then (bd (fX8_finding (-1000001) M1) fun r4 M3 => (some (r4, M3))) else (bd (fX8_areMates x1 x2 M1) fun r6 M5 => (some (r6, M5)))))
set_option maxHeartbeats 4000000 in
set_option maxRecDepth 100000 in
theorem mtX8_share (E : EV) (l : Launch)   (x1 : Int32) (x2 : Int32) (M : Mem) : CT E l yX8_share wsX8_share rmX8_share vI [.ref (eA E 57), .int x1, .int x2] (fX8_share x1 x2 M) M := by
  refine ct_of (cc := cX8_share) (nL := 3) (ret := (some .int)) (by decide +kernel) rfl (Nat.le_of_ble_eq_true rfl) ?_
  show ZZ E l RX8 cX8_share 3 (some .int) wsX8_share rmX8_share vI (fX8_share x1 x2 M) M [(0, .ref (eA E 57)), (1, .int x1), (2, .int x2)] 0 []
  unfold fX8_share
  refine zz_aload_n (npc := 1) 0 rfl rfl dX8_share_0 rfl ?_
  refine zz_iload_n (npc := 2) 1 rfl rfl dX8_share_1 rfl ?_
  refine zz_iload_n (npc := 3) 2 rfl rfl dX8_share_2 rfl ?_
  refine zz_callVi (npc := 6) (n := 2) (As := [.int x1, .int x2]) (by decide) (by rfl) rfl gX8_share_X8_areTwo rfl rfl rfl (by decide +kernel) ⟨Nat.le_of_ble_eq_true rfl, Nat.le_of_ble_eq_true rfl⟩ rfl rfl (Nat.le_of_ble_eq_true rfl) (mtX8_areTwo E l  x1 x2 M) dX8_share_3 rfl (fun r2 M1 _ => ?_)
  refine zz_if_eq (tgt := 18) (npc := 9) dX8_share_6 (by decide) rfl ?_ ?_
  · refine zz_aload_n (npc := 19) 0 rfl rfl dX8_share_18 rfl ?_
    refine zz_ldc (npc := 21) (-1000001) (List.mem_of_getElem? (i := 1) rfl) dX8_share_19 rfl ?_
    refine zz_callVi (npc := 24) (n := 1) (As := [.int (-1000001)]) (by decide) (by rfl) rfl gX8_share_X8_finding rfl rfl rfl (by decide +kernel) ⟨Nat.le_of_ble_eq_true rfl, Nat.le_of_ble_eq_true rfl⟩ rfl rfl (Nat.le_of_ble_eq_true rfl) (mtX8_finding E l  (-1000001) M1) dX8_share_21 rfl (fun r4 M3 _ => ?_)
    exact zz_iret dX8_share_24
  · refine zz_aload_n (npc := 10) 0 rfl rfl dX8_share_9 rfl ?_
    refine zz_iload_n (npc := 11) 1 rfl rfl dX8_share_10 rfl ?_
    refine zz_iload_n (npc := 12) 2 rfl rfl dX8_share_11 rfl ?_
    refine zz_callVi (npc := 15) (n := 2) (As := [.int x1, .int x2]) (by decide) (by rfl) rfl gX8_share_X8_areMates rfl rfl rfl (by decide +kernel) ⟨Nat.le_of_ble_eq_true rfl, Nat.le_of_ble_eq_true rfl⟩ rfl rfl (Nat.le_of_ble_eq_true rfl) (mtX8_areMates E l  x1 x2 M1) dX8_share_12 rfl (fun r6 M5 _ => ?_)
    refine zz_goto (npc := 0) (tgt := 24) dX8_share_15 (by decide) ?_
    exact zz_iret dX8_share_24
abbrev rmX8_part : Room := { frames := 2, cells := 0, slots := 0, locals := 45 }
noncomputable def fX8_part  (x1 : Int32) (M : Mem) : Option (Int32 × Mem) := (bd (fX8_isPerson x1 M) fun r2 M1 => (if r2 = 0 then (bd (fX8_finding (-1000001) M1) fun r10 M9 => (some (r10, M9))) else (bd (fX8_personIs x1 4 M1) fun r4 M3 => (if 0 ≤ r4 then (bd (fX8_parts x1 M3) fun r6 M5 => (some (r6, M5))) else (bd (fX8_finding (-1000004) M3) fun r8 M7 => (some (r8, M7)))))))
set_option maxHeartbeats 4000000 in
set_option maxRecDepth 100000 in
theorem mtX8_part (E : EV) (l : Launch)   (x1 : Int32) (M : Mem) : CT E l yX8_part wsX8_part rmX8_part vI [.ref (eA E 57), .int x1] (fX8_part x1 M) M := by
  refine ct_of (cc := cX8_part) (nL := 2) (ret := (some .int)) (by decide +kernel) rfl (Nat.le_of_ble_eq_true rfl) ?_
  show ZZ E l RX8 cX8_part 2 (some .int) wsX8_part rmX8_part vI (fX8_part x1 M) M [(0, .ref (eA E 57)), (1, .int x1)] 0 []
  unfold fX8_part
  refine zz_aload_n (npc := 1) 0 rfl rfl dX8_part_0 rfl ?_
  refine zz_iload_n (npc := 2) 1 rfl rfl dX8_part_1 rfl ?_
  refine zz_callVi (npc := 5) (n := 1) (As := [.int x1]) (by decide) (by rfl) rfl gX8_part_X8_isPerson rfl rfl rfl (by decide +kernel) ⟨Nat.le_of_ble_eq_true rfl, Nat.le_of_ble_eq_true rfl⟩ rfl rfl (Nat.le_of_ble_eq_true rfl) (mtX8_isPerson E l  x1 M) dX8_part_2 rfl (fun r2 M1 _ => ?_)
  refine zz_if_ne (tgt := 15) (npc := 8) dX8_part_5 (by decide) rfl ?_ ?_
  · refine zz_aload_n (npc := 16) 0 rfl rfl dX8_part_15 rfl ?_
    refine zz_iload_n (npc := 17) 1 rfl rfl dX8_part_16 rfl ?_
    refine zz_iconst (npc := 18) 4 (by decide) dX8_part_17 rfl ?_
    refine zz_callVi (npc := 21) (n := 2) (As := [.int x1, .int 4]) (by decide) (by rfl) rfl gX8_part_X8_personIs rfl rfl rfl (by decide +kernel) ⟨Nat.le_of_ble_eq_true rfl, Nat.le_of_ble_eq_true rfl⟩ rfl rfl (Nat.le_of_ble_eq_true rfl) (mtX8_personIs E l  x1 4 M1) dX8_part_18 rfl (fun r4 M3 _ => ?_)
    refine zz_if_ge (tgt := 33) (npc := 24) dX8_part_21 (by decide) rfl ?_ ?_
    · refine zz_aload_n (npc := 34) 0 rfl rfl dX8_part_33 rfl ?_
      refine zz_iload_n (npc := 35) 1 rfl rfl dX8_part_34 rfl ?_
      refine zz_callVi (npc := 38) (n := 1) (As := [.int x1]) (by decide) (by rfl) rfl gX8_part_X8_parts rfl rfl rfl (by decide +kernel) ⟨Nat.le_of_ble_eq_true rfl, Nat.le_of_ble_eq_true rfl⟩ rfl rfl (Nat.le_of_ble_eq_true rfl) (mtX8_parts E l  x1 M3) dX8_part_35 rfl (fun r6 M5 _ => ?_)
      exact zz_iret dX8_part_38
    · refine zz_aload_n (npc := 25) 0 rfl rfl dX8_part_24 rfl ?_
      refine zz_ldc (npc := 27) (-1000004) (List.mem_of_getElem? (i := 2) rfl) dX8_part_25 rfl ?_
      refine zz_callVi (npc := 30) (n := 1) (As := [.int (-1000004)]) (by decide) (by rfl) rfl gX8_part_X8_finding rfl rfl rfl (by decide +kernel) ⟨Nat.le_of_ble_eq_true rfl, Nat.le_of_ble_eq_true rfl⟩ rfl rfl (Nat.le_of_ble_eq_true rfl) (mtX8_finding E l  (-1000004) M3) dX8_part_27 rfl (fun r8 M7 _ => ?_)
      refine zz_goto (npc := 0) (tgt := 38) dX8_part_30 (by decide) ?_
      exact zz_iret dX8_part_38
  · refine zz_aload_n (npc := 9) 0 rfl rfl dX8_part_8 rfl ?_
    refine zz_ldc (npc := 11) (-1000001) (List.mem_of_getElem? (i := 1) rfl) dX8_part_9 rfl ?_
    refine zz_callVi (npc := 14) (n := 1) (As := [.int (-1000001)]) (by decide) (by rfl) rfl gX8_part_X8_finding rfl rfl rfl (by decide +kernel) ⟨Nat.le_of_ble_eq_true rfl, Nat.le_of_ble_eq_true rfl⟩ rfl rfl (Nat.le_of_ble_eq_true rfl) (mtX8_finding E l  (-1000001) M1) dX8_part_11 rfl (fun r10 M9 _ => ?_)
    exact zz_iret dX8_part_14
abbrev rmX8_light : Room := { frames := 2, cells := 0, slots := 0, locals := 42 }
noncomputable def fX8_light  (x1 : Int32) (M : Mem) : Option (Int32 × Mem) := (bd (fX8_isHours x1 M) fun r2 M1 => (if r2 = 0 then (bd (fX8_finding (-1000001) M1) fun r4 M3 => (some (r4, M3))) else (bd (fX8_become 3 x1 M1) fun r6 M5 => (some (r6, M5)))))
set_option maxHeartbeats 4000000 in
set_option maxRecDepth 100000 in
theorem mtX8_light (E : EV) (l : Launch)   (x1 : Int32) (M : Mem) : CT E l yX8_light wsX8_light rmX8_light vI [.ref (eA E 57), .int x1] (fX8_light x1 M) M := by
  refine ct_of (cc := cX8_light) (nL := 2) (ret := (some .int)) (by decide +kernel) rfl (Nat.le_of_ble_eq_true rfl) ?_
  show ZZ E l RX8 cX8_light 2 (some .int) wsX8_light rmX8_light vI (fX8_light x1 M) M [(0, .ref (eA E 57)), (1, .int x1)] 0 []
  unfold fX8_light
  refine zz_iload_n (npc := 1) 1 rfl rfl dX8_light_0 rfl ?_
  refine zz_callSi (npc := 4) (n := 1) (As := [.int x1]) gX8_light_X8_isHours rfl rfl rfl (by decide +kernel) ⟨Nat.le_of_ble_eq_true rfl, Nat.le_of_ble_eq_true rfl⟩ rfl rfl (Nat.le_of_ble_eq_true rfl) (mtX8_isHours E l  x1 M) dX8_light_1 rfl (fun r2 M1 _ => ?_)
  refine zz_if_eq (tgt := 16) (npc := 7) dX8_light_4 (by decide) rfl ?_ ?_
  · refine zz_aload_n (npc := 17) 0 rfl rfl dX8_light_16 rfl ?_
    refine zz_ldc (npc := 19) (-1000001) (List.mem_of_getElem? (i := 1) rfl) dX8_light_17 rfl ?_
    refine zz_callVi (npc := 22) (n := 1) (As := [.int (-1000001)]) (by decide) (by rfl) rfl gX8_light_X8_finding rfl rfl rfl (by decide +kernel) ⟨Nat.le_of_ble_eq_true rfl, Nat.le_of_ble_eq_true rfl⟩ rfl rfl (Nat.le_of_ble_eq_true rfl) (mtX8_finding E l  (-1000001) M1) dX8_light_19 rfl (fun r4 M3 _ => ?_)
    exact zz_iret dX8_light_22
  · refine zz_aload_n (npc := 8) 0 rfl rfl dX8_light_7 rfl ?_
    refine zz_iconst (npc := 9) 3 (by decide) dX8_light_8 rfl ?_
    refine zz_iload_n (npc := 10) 1 rfl rfl dX8_light_9 rfl ?_
    refine zz_callVi (npc := 13) (n := 2) (As := [.int 3, .int x1]) (by decide) (by rfl) rfl gX8_light_X8_become rfl rfl rfl (by decide +kernel) ⟨Nat.le_of_ble_eq_true rfl, Nat.le_of_ble_eq_true rfl⟩ rfl rfl (Nat.le_of_ble_eq_true rfl) (mtX8_become E l  3 x1 M1) dX8_light_10 rfl (fun r6 M5 _ => ?_)
    refine zz_goto (npc := 0) (tgt := 22) dX8_light_13 (by decide) ?_
    exact zz_iret dX8_light_22
abbrev rmX8_claim : Room := { frames := 3, cells := 0, slots := 0, locals := 67 }
noncomputable def fX8_claim_L27    (M : Mem) : Option (Int32 × Mem) := (bd (fX8_finding (-1000001) M) fun r8 M7 => (some (r8, M7)))
set_option maxHeartbeats 4000000 in
set_option maxRecDepth 100000 in
theorem zX8_claim_L27 (E : EV) (l : Launch)     : ∀  (M : Mem), ZZ E l RX8 cX8_claim 3 (some .int) wsX8_claim rmX8_claim vI (fX8_claim_L27 M) M [(0, .ref (eA E 57))] 27 [] := by
  intro M
  unfold fX8_claim_L27
  refine zz_aload_n (npc := 28) 0 rfl rfl dX8_claim_27 rfl ?_
  refine zz_ldc (npc := 30) (-1000001) (List.mem_of_getElem? (i := 1) rfl) dX8_claim_28 rfl ?_
  refine zz_callVi (npc := 33) (n := 1) (As := [.int (-1000001)]) (by decide) (by rfl) rfl gX8_claim_X8_finding rfl rfl rfl (by decide +kernel) ⟨Nat.le_of_ble_eq_true rfl, Nat.le_of_ble_eq_true rfl⟩ rfl rfl (Nat.le_of_ble_eq_true rfl) (mtX8_finding E l  (-1000001) M) dX8_claim_30 rfl (fun r8 M7 _ => ?_)
  exact zz_iret dX8_claim_33
noncomputable def fX8_claim  (x1 : Int32) (x2 : Int32) (M : Mem) : Option (Int32 × Mem) := (bd (fX8_isPerson x1 M) fun r2 M1 => (if r2 = 0 then (fX8_claim_L27  M1) else (bd (fX8_within x2 0 15 M1) fun r4 M3 => (if r4 = 0 then (fX8_claim_L27  M3) else (bd (fX8_claimOf x1 x2 M3) fun r6 M5 => (some (r6, M5)))))))
set_option maxHeartbeats 4000000 in
set_option maxRecDepth 100000 in
theorem mtX8_claim (E : EV) (l : Launch)   (x1 : Int32) (x2 : Int32) (M : Mem) : CT E l yX8_claim wsX8_claim rmX8_claim vI [.ref (eA E 57), .int x1, .int x2] (fX8_claim x1 x2 M) M := by
  refine ct_of (cc := cX8_claim) (nL := 3) (ret := (some .int)) (by decide +kernel) rfl (Nat.le_of_ble_eq_true rfl) ?_
  show ZZ E l RX8 cX8_claim 3 (some .int) wsX8_claim rmX8_claim vI (fX8_claim x1 x2 M) M [(0, .ref (eA E 57)), (1, .int x1), (2, .int x2)] 0 []
  unfold fX8_claim
  refine zz_aload_n (npc := 1) 0 rfl rfl dX8_claim_0 rfl ?_
  refine zz_iload_n (npc := 2) 1 rfl rfl dX8_claim_1 rfl ?_
  refine zz_callVi (npc := 5) (n := 1) (As := [.int x1]) (by decide) (by rfl) rfl gX8_claim_X8_isPerson rfl rfl rfl (by decide +kernel) ⟨Nat.le_of_ble_eq_true rfl, Nat.le_of_ble_eq_true rfl⟩ rfl rfl (Nat.le_of_ble_eq_true rfl) (mtX8_isPerson E l  x1 M) dX8_claim_2 rfl (fun r2 M1 _ => ?_)
  refine zz_if_eq (tgt := 27) (npc := 8) dX8_claim_5 (by decide) rfl ?_ ?_
  · refine zz_sub (npc := 0) (lv1 := [(0, .ref (eA E 57))]) [0] rfl ?_
    exact zX8_claim_L27 E l  M1
  · refine zz_iload_n (npc := 9) 2 rfl rfl dX8_claim_8 rfl ?_
    refine zz_iconst (npc := 10) 0 (by decide) dX8_claim_9 rfl ?_
    refine zz_bipush (npc := 12) 15 (by decide) dX8_claim_10 rfl ?_
    refine zz_callSi (npc := 15) (n := 3) (As := [.int x2, .int 0, .int 15]) gX8_claim_X8_within rfl rfl rfl (by decide +kernel) ⟨Nat.le_of_ble_eq_true rfl, Nat.le_of_ble_eq_true rfl⟩ rfl rfl (Nat.le_of_ble_eq_true rfl) (mtX8_within E l  x2 0 15 M1) dX8_claim_12 rfl (fun r4 M3 _ => ?_)
    refine zz_if_eq (tgt := 27) (npc := 18) dX8_claim_15 (by decide) rfl ?_ ?_
    · refine zz_sub (npc := 0) (lv1 := [(0, .ref (eA E 57))]) [0] rfl ?_
      exact zX8_claim_L27 E l  M3
    · refine zz_aload_n (npc := 19) 0 rfl rfl dX8_claim_18 rfl ?_
      refine zz_iload_n (npc := 20) 1 rfl rfl dX8_claim_19 rfl ?_
      refine zz_iload_n (npc := 21) 2 rfl rfl dX8_claim_20 rfl ?_
      refine zz_callVi (npc := 24) (n := 2) (As := [.int x1, .int x2]) (by decide) (by rfl) rfl gX8_claim_X8_claimOf rfl rfl rfl (by decide +kernel) ⟨Nat.le_of_ble_eq_true rfl, Nat.le_of_ble_eq_true rfl⟩ rfl rfl (Nat.le_of_ble_eq_true rfl) (mtX8_claimOf E l  x1 x2 M3) dX8_claim_21 rfl (fun r6 M5 _ => ?_)
      refine zz_goto (npc := 0) (tgt := 33) dX8_claim_24 (by decide) ?_
      exact zz_iret dX8_claim_33
abbrev rmX8_hour : Room := { frames := 6, cells := 0, slots := 0, locals := 138 }
theorem iX8_hour_8 : ∀ w ∈ u_ws RX8 TX8 29, w ∈ wsX8_hour := fun w h => List.mem_cons_of_mem _ (List.mem_append_right _ h)
noncomputable def fX8_hour_L166  (k15 : Int32 → Int32 → Int32 → Mem → Option (Unit × Mem)) (y1 : Int32) (y2 : Int32) (y3 : Int32) (w0 : Int32) (w1 : Int32) (M : Mem) : Option (Unit × Mem) := (ck (inb w1 56) (wm (wr M 58 (ix w1) w0) fun M23 => (bv (y3 + 1) fun v24 => (k15 y1 y2 v24 M23))))
set_option maxHeartbeats 4000000 in
set_option maxRecDepth 100000 in
theorem zX8_hour_L166 (E : EV) (l : Launch)   (k15 : Int32 → Int32 → Int32 → Mem → Option (Unit × Mem)) (hk15 : ∀ (y1_ : Int32) (y2_ : Int32) (y3_ : Int32) (M_ : Mem), ZZ E l RX8 cX8_hour 7 none wsX8_hour rmX8_hour vV (k15 y1_ y2_ y3_ M_) M_ [(0, .ref (eA E 57)), (1, .int y1_), (2, .int y2_), (3, .int y3_)] 15 []) : ∀ (y1 : Int32) (y2 : Int32) (y3 : Int32) (w0 : Int32) (w1 : Int32) (M : Mem), ZZ E l RX8 cX8_hour 7 none wsX8_hour rmX8_hour vV (fX8_hour_L166 k15 y1 y2 y3 w0 w1 M) M [(0, .ref (eA E 57)), (1, .int y1), (2, .int y2), (3, .int y3)] 166 [.int w0, .int w1, .ref (eA E 58)] := by
  intro y1 y2 y3 w0 w1 M
  unfold fX8_hour_L166
  refine zz_iast (npc := 167) (by decide) (by rfl) dX8_hour_166 rfl (fun M23 => ?_)
  refine zz_iincB (npc := 170) (y3 + 1) (lv1 := fun v24 => [(3, .int v24), (0, .ref (eA E 57)), (1, .int y1), (2, .int y2)]) dX8_hour_167 rfl 3 rfl rfl (by decide) (fun _ => rfl) (fun v24 => ?_)
  refine zz_goto (npc := 0) (tgt := 15) dX8_hour_170 (by decide) ?_
  refine zz_sub (npc := 0) (lv1 := [(0, .ref (eA E 57)), (1, .int y1), (2, .int y2), (3, .int v24)]) [1, 2, 3, 0] rfl ?_
  exact hk15 y1 y2 v24 M23
noncomputable def fX8_hour_L106  (k15 : Int32 → Int32 → Int32 → Mem → Option (Unit × Mem)) (y1 : Int32) (y2 : Int32) (y3 : Int32) (w0 : Int32) (w1 : Int32) (M : Mem) : Option (Unit × Mem) := (ck (inb 2 56) (wm (wr M 58 (ix 2) (w1 + w0)) fun M14 => (bd (fX8_personIs y3 1 M14) fun r16 M15 => (bd (fX8_at y3 1 M15) fun r18 M17 => (bd (fX8_isLit y1 M17) fun r20 M19 => (if r20 = 0 then (fX8_hour_L166 k15 y1 y2 y3 r16 r18 M19) else (bd (fX8_has y2 y3 M19) fun r22 M21 => (if r22 = 0 then (fX8_hour_L166 k15 y1 y2 y3 (imin 99 (r16 + 1)) r18 M21) else (fX8_hour_L166 k15 y1 y2 y3 (imax 0 (r16 - 1)) r18 M21)))))))))
set_option maxHeartbeats 4000000 in
set_option maxRecDepth 100000 in
theorem zX8_hour_L106 (E : EV) (l : Launch)   (k15 : Int32 → Int32 → Int32 → Mem → Option (Unit × Mem)) (hk15 : ∀ (y1_ : Int32) (y2_ : Int32) (y3_ : Int32) (M_ : Mem), ZZ E l RX8 cX8_hour 7 none wsX8_hour rmX8_hour vV (k15 y1_ y2_ y3_ M_) M_ [(0, .ref (eA E 57)), (1, .int y1_), (2, .int y2_), (3, .int y3_)] 15 []) : ∀ (y1 : Int32) (y2 : Int32) (y3 : Int32) (w0 : Int32) (w1 : Int32) (M : Mem), ZZ E l RX8 cX8_hour 7 none wsX8_hour rmX8_hour vV (fX8_hour_L106 k15 y1 y2 y3 w0 w1 M) M [(0, .ref (eA E 57)), (1, .int y1), (2, .int y2), (3, .int y3)] 106 [.int w0, .int w1, .int 2, .ref (eA E 58)] := by
  intro y1 y2 y3 w0 w1 M
  unfold fX8_hour_L106
  refine zz_iadd (npc := 107) dX8_hour_106 rfl ?_
  refine zz_iast (npc := 108) (by decide) (by rfl) dX8_hour_107 rfl (fun M14 => ?_)
  refine zz_aload_n (npc := 109) 0 rfl rfl dX8_hour_108 rfl ?_
  refine zz_iload_n (npc := 110) 3 rfl rfl dX8_hour_109 rfl ?_
  refine zz_iconst (npc := 111) 1 (by decide) dX8_hour_110 rfl ?_
  refine zz_callVi (npc := 114) (n := 2) (As := [.int y3, .int 1]) (by decide) (by rfl) rfl gX8_hour_X8_personIs rfl rfl rfl (by decide +kernel) ⟨Nat.le_of_ble_eq_true rfl, Nat.le_of_ble_eq_true rfl⟩ rfl rfl (Nat.le_of_ble_eq_true rfl) (mtX8_personIs E l  y3 1 M14) dX8_hour_111 rfl (fun r16 M15 _ => ?_)
  refine zz_istore (npc := 116) (lv1 := [(6, .int r16), (0, .ref (eA E 57)), (1, .int y1), (2, .int y2), (3, .int y3)]) dX8_hour_114 rfl (by decide) rfl ?_
  refine zz_aload_n (npc := 117) 1 rfl rfl dX8_hour_116 rfl ?_
  refine zz_getR (npc := 120) (i := 0) (C0 := RX8) (T := TX8) (N := 29) (by decide) (by rfl) rfl (by decide) iX8_hour_8 (List.mem_of_getElem? (i := 1) rfl) rfl dX8_hour_117 rfl ?_
  refine zz_iload_n (npc := 121) 4 rfl rfl dX8_hour_120 rfl ?_
  refine zz_iconst (npc := 122) 1 (by decide) dX8_hour_121 rfl ?_
  refine zz_callSi (npc := 125) (n := 2) (As := [.int y3, .int 1]) gX8_hour_X8_at rfl rfl rfl (by decide +kernel) ⟨Nat.le_of_ble_eq_true rfl, Nat.le_of_ble_eq_true rfl⟩ rfl rfl (Nat.le_of_ble_eq_true rfl) (mtX8_at E l  y3 1 M15) dX8_hour_122 rfl (fun r18 M17 _ => ?_)
  refine zz_aload_n (npc := 126) 1 rfl rfl dX8_hour_125 rfl ?_
  refine zz_iload_n (npc := 127) 2 rfl rfl dX8_hour_126 rfl ?_
  refine zz_callVi (npc := 130) (n := 1) (As := [.int y1]) (by decide) (by rfl) rfl gX8_hour_X8_isLit rfl rfl rfl (by decide +kernel) ⟨Nat.le_of_ble_eq_true rfl, Nat.le_of_ble_eq_true rfl⟩ rfl rfl (Nat.le_of_ble_eq_true rfl) (mtX8_isLit E l  y1 M17) dX8_hour_127 rfl (fun r20 M19 _ => ?_)
  refine zz_if_ne (tgt := 138) (npc := 133) dX8_hour_130 (by decide) rfl ?_ ?_
  · refine zz_iload_n (npc := 139) 3 rfl rfl dX8_hour_138 rfl ?_
    refine zz_iload_n (npc := 140) 4 rfl rfl dX8_hour_139 rfl ?_
    refine zz_callSi (npc := 143) (n := 2) (As := [.int y2, .int y3]) gX8_hour_X8_has rfl rfl rfl (by decide +kernel) ⟨Nat.le_of_ble_eq_true rfl, Nat.le_of_ble_eq_true rfl⟩ rfl rfl (Nat.le_of_ble_eq_true rfl) (mtX8_has E l  y2 y3 M19) dX8_hour_140 rfl (fun r22 M21 _ => ?_)
    refine zz_if_eq (tgt := 157) (npc := 146) dX8_hour_143 (by decide) rfl ?_ ?_
    · refine zz_bipush (npc := 159) 99 (by decide) dX8_hour_157 rfl ?_
      refine zz_iload (npc := 161) 0 rfl dX8_hour_159 rfl ?_
      refine zz_iconst (npc := 162) 1 (by decide) dX8_hour_161 rfl ?_
      refine zz_iadd (npc := 163) dX8_hour_162 rfl ?_
      refine zz_mmin (npc := 166) (List.mem_of_getElem? (i := 6) rfl) (List.mem_of_getElem? (i := 7) rfl) (List.mem_of_getElem? (i := 4) rfl) (List.mem_of_getElem? (i := 8) rfl) (Nat.le_of_ble_eq_true rfl) (Nat.le_of_ble_eq_true rfl) dX8_hour_163 rfl ?_
      refine zz_sub (npc := 0) (lv1 := [(0, .ref (eA E 57)), (1, .int y1), (2, .int y2), (3, .int y3)]) [1, 2, 3, 4] rfl ?_
      exact zX8_hour_L166 E l k15 hk15 y1 y2 y3 (imin 99 (r16 + 1)) r18 M21
    · refine zz_iconst (npc := 147) 0 (by decide) dX8_hour_146 rfl ?_
      refine zz_iload (npc := 149) 0 rfl dX8_hour_147 rfl ?_
      refine zz_iconst (npc := 150) 1 (by decide) dX8_hour_149 rfl ?_
      refine zz_isub (npc := 151) dX8_hour_150 rfl ?_
      refine zz_mmax (npc := 154) (List.mem_of_getElem? (i := 2) rfl) (List.mem_of_getElem? (i := 3) rfl) (List.mem_of_getElem? (i := 4) rfl) (List.mem_of_getElem? (i := 5) rfl) (Nat.le_of_ble_eq_true rfl) (Nat.le_of_ble_eq_true rfl) dX8_hour_151 rfl ?_
      refine zz_goto (npc := 0) (tgt := 166) dX8_hour_154 (by decide) ?_
      refine zz_sub (npc := 0) (lv1 := [(0, .ref (eA E 57)), (1, .int y1), (2, .int y2), (3, .int y3)]) [1, 2, 3, 4] rfl ?_
      exact zX8_hour_L166 E l k15 hk15 y1 y2 y3 (imax 0 (r16 - 1)) r18 M21
  · refine zz_iload (npc := 135) 0 rfl dX8_hour_133 rfl ?_
    refine zz_goto (npc := 0) (tgt := 166) dX8_hour_135 (by decide) ?_
    refine zz_sub (npc := 0) (lv1 := [(0, .ref (eA E 57)), (1, .int y1), (2, .int y2), (3, .int y3)]) [1, 2, 3, 4] rfl ?_
    exact zX8_hour_L166 E l k15 hk15 y1 y2 y3 r16 r18 M19
noncomputable def fX8_hour_L105  (k15 : Int32 → Int32 → Int32 → Mem → Option (Unit × Mem)) (y1 : Int32) (y2 : Int32) (y3 : Int32) (w0 : Int32) (M : Mem) : Option (Unit × Mem) := (fX8_hour_L106 k15 y1 y2 y3 0 w0 M)
set_option maxHeartbeats 4000000 in
set_option maxRecDepth 100000 in
theorem zX8_hour_L105 (E : EV) (l : Launch)   (k15 : Int32 → Int32 → Int32 → Mem → Option (Unit × Mem)) (hk15 : ∀ (y1_ : Int32) (y2_ : Int32) (y3_ : Int32) (M_ : Mem), ZZ E l RX8 cX8_hour 7 none wsX8_hour rmX8_hour vV (k15 y1_ y2_ y3_ M_) M_ [(0, .ref (eA E 57)), (1, .int y1_), (2, .int y2_), (3, .int y3_)] 15 []) : ∀ (y1 : Int32) (y2 : Int32) (y3 : Int32) (w0 : Int32) (M : Mem), ZZ E l RX8 cX8_hour 7 none wsX8_hour rmX8_hour vV (fX8_hour_L105 k15 y1 y2 y3 w0 M) M [(0, .ref (eA E 57)), (1, .int y1), (2, .int y2), (3, .int y3)] 105 [.int w0, .int 2, .ref (eA E 58)] := by
  intro y1 y2 y3 w0 M
  unfold fX8_hour_L105
  refine zz_iconst (npc := 106) 0 (by decide) dX8_hour_105 rfl ?_
  exact zX8_hour_L106 E l k15 hk15 y1 y2 y3 0 w0 M
noncomputable def fX8_hour_L82  (k15 : Int32 → Int32 → Int32 → Mem → Option (Unit × Mem)) (y1 : Int32) (y2 : Int32) (y3 : Int32) (y4 : Int32) (y5 : Int32) (w0 : Int32) (w1 : Int32) (M : Mem) : Option (Unit × Mem) := (ck (inb 1 56) (wm (wr M 58 (ix 1) (w1 + w0)) fun M13 => (ck (inb 2 56) (if y4 = 0 then (fX8_hour_L105 k15 y1 y2 y3 (M13 58 (ix 2)) M13) else (if y5 = 0 then (fX8_hour_L106 k15 y1 y2 y3 1 (M13 58 (ix 2)) M13) else (fX8_hour_L105 k15 y1 y2 y3 (M13 58 (ix 2)) M13))))))
set_option maxHeartbeats 4000000 in
set_option maxRecDepth 100000 in
theorem zX8_hour_L82 (E : EV) (l : Launch)   (k15 : Int32 → Int32 → Int32 → Mem → Option (Unit × Mem)) (hk15 : ∀ (y1_ : Int32) (y2_ : Int32) (y3_ : Int32) (M_ : Mem), ZZ E l RX8 cX8_hour 7 none wsX8_hour rmX8_hour vV (k15 y1_ y2_ y3_ M_) M_ [(0, .ref (eA E 57)), (1, .int y1_), (2, .int y2_), (3, .int y3_)] 15 []) : ∀ (y1 : Int32) (y2 : Int32) (y3 : Int32) (y4 : Int32) (y5 : Int32) (w0 : Int32) (w1 : Int32) (M : Mem), ZZ E l RX8 cX8_hour 7 none wsX8_hour rmX8_hour vV (fX8_hour_L82 k15 y1 y2 y3 y4 y5 w0 w1 M) M [(0, .ref (eA E 57)), (1, .int y1), (2, .int y2), (3, .int y3), (4, .int y4), (5, .int y5)] 82 [.int w0, .int w1, .int 1, .ref (eA E 58)] := by
  intro y1 y2 y3 y4 y5 w0 w1 M
  unfold fX8_hour_L82
  refine zz_iadd (npc := 83) dX8_hour_82 rfl ?_
  refine zz_iast (npc := 84) (by decide) (by rfl) dX8_hour_83 rfl (fun M13 => ?_)
  refine zz_aload_n (npc := 85) 0 rfl rfl dX8_hour_84 rfl ?_
  refine zz_getR (npc := 88) (i := 0) (C0 := RX8) (T := TX8) (N := 29) (by decide) (by rfl) rfl (by decide) iX8_hour_8 (List.mem_of_getElem? (i := 1) rfl) rfl dX8_hour_85 rfl ?_
  refine zz_iconst (npc := 89) 2 (by decide) dX8_hour_88 rfl ?_
  refine zz_dup2 (npc := 90) rfl rfl dX8_hour_89 rfl ?_
  refine zz_iald (npc := 91) (by decide) (by rfl) dX8_hour_90 rfl ?_
  refine zz_iload (npc := 93) 4 rfl dX8_hour_91 rfl ?_
  refine zz_if_eq (tgt := 105) (npc := 96) dX8_hour_93 (by decide) rfl ?_ ?_
  · refine zz_sub (npc := 0) (lv1 := [(0, .ref (eA E 57)), (1, .int y1), (2, .int y2), (3, .int y3)]) [0, 1, 2, 3] rfl ?_
    exact zX8_hour_L105 E l k15 hk15 y1 y2 y3 (M13 58 (ix 2)) M13
  · refine zz_iload (npc := 98) 5 rfl dX8_hour_96 rfl ?_
    refine zz_if_ne (tgt := 105) (npc := 101) dX8_hour_98 (by decide) rfl ?_ ?_
    · refine zz_sub (npc := 0) (lv1 := [(0, .ref (eA E 57)), (1, .int y1), (2, .int y2), (3, .int y3)]) [0, 1, 2, 3] rfl ?_
      exact zX8_hour_L105 E l k15 hk15 y1 y2 y3 (M13 58 (ix 2)) M13
    · refine zz_iconst (npc := 102) 1 (by decide) dX8_hour_101 rfl ?_
      refine zz_goto (npc := 0) (tgt := 106) dX8_hour_102 (by decide) ?_
      refine zz_sub (npc := 0) (lv1 := [(0, .ref (eA E 57)), (1, .int y1), (2, .int y2), (3, .int y3)]) [0, 1, 2, 3] rfl ?_
      exact zX8_hour_L106 E l k15 hk15 y1 y2 y3 1 (M13 58 (ix 2)) M13
noncomputable def fX8_hour_L81  (k15 : Int32 → Int32 → Int32 → Mem → Option (Unit × Mem)) (y1 : Int32) (y2 : Int32) (y3 : Int32) (y4 : Int32) (y5 : Int32) (w0 : Int32) (M : Mem) : Option (Unit × Mem) := (fX8_hour_L82 k15 y1 y2 y3 y4 y5 0 w0 M)
set_option maxHeartbeats 4000000 in
set_option maxRecDepth 100000 in
theorem zX8_hour_L81 (E : EV) (l : Launch)   (k15 : Int32 → Int32 → Int32 → Mem → Option (Unit × Mem)) (hk15 : ∀ (y1_ : Int32) (y2_ : Int32) (y3_ : Int32) (M_ : Mem), ZZ E l RX8 cX8_hour 7 none wsX8_hour rmX8_hour vV (k15 y1_ y2_ y3_ M_) M_ [(0, .ref (eA E 57)), (1, .int y1_), (2, .int y2_), (3, .int y3_)] 15 []) : ∀ (y1 : Int32) (y2 : Int32) (y3 : Int32) (y4 : Int32) (y5 : Int32) (w0 : Int32) (M : Mem), ZZ E l RX8 cX8_hour 7 none wsX8_hour rmX8_hour vV (fX8_hour_L81 k15 y1 y2 y3 y4 y5 w0 M) M [(0, .ref (eA E 57)), (1, .int y1), (2, .int y2), (3, .int y3), (4, .int y4), (5, .int y5)] 81 [.int w0, .int 1, .ref (eA E 58)] := by
  intro y1 y2 y3 y4 y5 w0 M
  unfold fX8_hour_L81
  refine zz_iconst (npc := 82) 0 (by decide) dX8_hour_81 rfl ?_
  exact zX8_hour_L82 E l k15 hk15 y1 y2 y3 y4 y5 0 w0 M
noncomputable def fX8_hour_L58  (k15 : Int32 → Int32 → Int32 → Mem → Option (Unit × Mem)) (y1 : Int32) (y2 : Int32) (y3 : Int32) (y4 : Int32) (w0 : Int32) (M : Mem) : Option (Unit × Mem) := (ck (inb 1 56) (if y4 = 0 then (fX8_hour_L81 k15 y1 y2 y3 y4 w0 (M 58 (ix 1)) M) else (if w0 = 0 then (fX8_hour_L81 k15 y1 y2 y3 y4 w0 (M 58 (ix 1)) M) else (fX8_hour_L82 k15 y1 y2 y3 y4 w0 1 (M 58 (ix 1)) M))))
set_option maxHeartbeats 4000000 in
set_option maxRecDepth 100000 in
theorem zX8_hour_L58 (E : EV) (l : Launch)   (k15 : Int32 → Int32 → Int32 → Mem → Option (Unit × Mem)) (hk15 : ∀ (y1_ : Int32) (y2_ : Int32) (y3_ : Int32) (M_ : Mem), ZZ E l RX8 cX8_hour 7 none wsX8_hour rmX8_hour vV (k15 y1_ y2_ y3_ M_) M_ [(0, .ref (eA E 57)), (1, .int y1_), (2, .int y2_), (3, .int y3_)] 15 []) : ∀ (y1 : Int32) (y2 : Int32) (y3 : Int32) (y4 : Int32) (w0 : Int32) (M : Mem), ZZ E l RX8 cX8_hour 7 none wsX8_hour rmX8_hour vV (fX8_hour_L58 k15 y1 y2 y3 y4 w0 M) M [(0, .ref (eA E 57)), (1, .int y1), (2, .int y2), (3, .int y3), (4, .int y4)] 58 [.int w0] := by
  intro y1 y2 y3 y4 w0 M
  unfold fX8_hour_L58
  refine zz_istore (npc := 60) (lv1 := [(5, .int w0), (0, .ref (eA E 57)), (1, .int y1), (2, .int y2), (3, .int y3), (4, .int y4)]) dX8_hour_58 rfl (by decide) rfl ?_
  refine zz_aload_n (npc := 61) 1 rfl rfl dX8_hour_60 rfl ?_
  refine zz_getR (npc := 64) (i := 0) (C0 := RX8) (T := TX8) (N := 29) (by decide) (by rfl) rfl (by decide) iX8_hour_8 (List.mem_of_getElem? (i := 1) rfl) rfl dX8_hour_61 rfl ?_
  refine zz_iconst (npc := 65) 1 (by decide) dX8_hour_64 rfl ?_
  refine zz_dup2 (npc := 66) rfl rfl dX8_hour_65 rfl ?_
  refine zz_iald (npc := 67) (by decide) (by rfl) dX8_hour_66 rfl ?_
  refine zz_iload (npc := 69) 5 rfl dX8_hour_67 rfl ?_
  refine zz_if_eq (tgt := 81) (npc := 72) dX8_hour_69 (by decide) rfl ?_ ?_
  · refine zz_sub (npc := 0) (lv1 := [(0, .ref (eA E 57)), (1, .int y1), (2, .int y2), (3, .int y3), (4, .int y4), (5, .int w0)]) [1, 2, 3, 4, 5, 0] rfl ?_
    exact zX8_hour_L81 E l k15 hk15 y1 y2 y3 y4 w0 (M 58 (ix 1)) M
  · refine zz_iload (npc := 74) 0 rfl dX8_hour_72 rfl ?_
    refine zz_if_eq (tgt := 81) (npc := 77) dX8_hour_74 (by decide) rfl ?_ ?_
    · refine zz_sub (npc := 0) (lv1 := [(0, .ref (eA E 57)), (1, .int y1), (2, .int y2), (3, .int y3), (4, .int y4), (5, .int w0)]) [1, 2, 3, 4, 5, 0] rfl ?_
      exact zX8_hour_L81 E l k15 hk15 y1 y2 y3 y4 w0 (M 58 (ix 1)) M
    · refine zz_iconst (npc := 78) 1 (by decide) dX8_hour_77 rfl ?_
      refine zz_goto (npc := 0) (tgt := 82) dX8_hour_78 (by decide) ?_
      refine zz_sub (npc := 0) (lv1 := [(0, .ref (eA E 57)), (1, .int y1), (2, .int y2), (3, .int y3), (4, .int y4), (5, .int w0)]) [1, 2, 3, 4, 5, 0] rfl ?_
      exact zX8_hour_L82 E l k15 hk15 y1 y2 y3 y4 w0 1 (M 58 (ix 1)) M
noncomputable def fX8_hour_L53  (k15 : Int32 → Int32 → Int32 → Mem → Option (Unit × Mem)) (y1 : Int32) (y2 : Int32) (y3 : Int32) (y4 : Int32) (M : Mem) : Option (Unit × Mem) := (fX8_hour_L58 k15 y1 y2 y3 y4 1 M)
set_option maxHeartbeats 4000000 in
set_option maxRecDepth 100000 in
theorem zX8_hour_L53 (E : EV) (l : Launch)   (k15 : Int32 → Int32 → Int32 → Mem → Option (Unit × Mem)) (hk15 : ∀ (y1_ : Int32) (y2_ : Int32) (y3_ : Int32) (M_ : Mem), ZZ E l RX8 cX8_hour 7 none wsX8_hour rmX8_hour vV (k15 y1_ y2_ y3_ M_) M_ [(0, .ref (eA E 57)), (1, .int y1_), (2, .int y2_), (3, .int y3_)] 15 []) : ∀ (y1 : Int32) (y2 : Int32) (y3 : Int32) (y4 : Int32) (M : Mem), ZZ E l RX8 cX8_hour 7 none wsX8_hour rmX8_hour vV (fX8_hour_L53 k15 y1 y2 y3 y4 M) M [(0, .ref (eA E 57)), (1, .int y1), (2, .int y2), (3, .int y3), (4, .int y4)] 53 [] := by
  intro y1 y2 y3 y4 M
  unfold fX8_hour_L53
  refine zz_iconst (npc := 54) 1 (by decide) dX8_hour_53 rfl ?_
  refine zz_goto (npc := 0) (tgt := 58) dX8_hour_54 (by decide) ?_
  exact zX8_hour_L58 E l k15 hk15 y1 y2 y3 y4 1 M
noncomputable def fX8_hour_L15   : Nat → Int32 → Int32 → Int32 → Mem → Option (Unit × Mem)
  | 0, _, _, _, _ => none
  | n + 1, y1, y2, y3, M => (ck (inb 4 56) (if (M 58 (ix 4)) ≤ y3 then (ck (inb 0 56) (ck (inb 0 56) (wm (wr M 58 (ix 0) ((M 58 (ix 0)) + 1)) fun M4 => (some ((), M4))))) else (bd (fX8_personIs y3 3 M) fun r6 M5 => (bd (fX8_has r6 y1 M5) fun r8 M7 => (bd (fX8_isLit y1 M7) fun r10 M9 => (if r10 = 0 then (fX8_hour_L53 (fX8_hour_L15  n) y1 y2 y3 r8 M9) else (bd (fX8_has y2 y3 M9) fun r12 M11 => (if r12 = 0 then (fX8_hour_L58 (fX8_hour_L15  n) y1 y2 y3 r8 0 M11) else (fX8_hour_L53 (fX8_hour_L15  n) y1 y2 y3 r8 M11)))))))))
set_option maxHeartbeats 4000000 in
set_option maxRecDepth 100000 in
theorem zX8_hour_L15 (E : EV) (l : Launch)     : ∀ (n : Nat) (y1 : Int32) (y2 : Int32) (y3 : Int32) (M : Mem), ZZ E l RX8 cX8_hour 7 none wsX8_hour rmX8_hour vV (fX8_hour_L15 n y1 y2 y3 M) M [(0, .ref (eA E 57)), (1, .int y1), (2, .int y2), (3, .int y3)] 15 [] := by
  intro n
  induction n with
  | zero => intros; exact zz_none
  | succ n ih =>
    intro y1 y2 y3 M
    rw [fX8_hour_L15]
    refine zz_iload_n (npc := 16) 3 rfl rfl dX8_hour_15 rfl ?_
    refine zz_aload_n (npc := 17) 0 rfl rfl dX8_hour_16 rfl ?_
    refine zz_getR (npc := 20) (i := 0) (C0 := RX8) (T := TX8) (N := 29) (by decide) (by rfl) rfl (by decide) iX8_hour_8 (List.mem_of_getElem? (i := 1) rfl) rfl dX8_hour_17 rfl ?_
    refine zz_iconst (npc := 21) 4 (by decide) dX8_hour_20 rfl ?_
    refine zz_iald (npc := 22) (by decide) (by rfl) dX8_hour_21 rfl ?_
    refine zz_icmp_ge (tgt := 173) (npc := 25) dX8_hour_22 (by decide) rfl ?_ ?_
    · refine zz_aload_n (npc := 174) 0 rfl rfl dX8_hour_173 rfl ?_
      refine zz_getR (npc := 177) (i := 0) (C0 := RX8) (T := TX8) (N := 29) (by decide) (by rfl) rfl (by decide) iX8_hour_8 (List.mem_of_getElem? (i := 1) rfl) rfl dX8_hour_174 rfl ?_
      refine zz_iconst (npc := 178) 0 (by decide) dX8_hour_177 rfl ?_
      refine zz_dup2 (npc := 179) rfl rfl dX8_hour_178 rfl ?_
      refine zz_iald (npc := 180) (by decide) (by rfl) dX8_hour_179 rfl ?_
      refine zz_iconst (npc := 181) 1 (by decide) dX8_hour_180 rfl ?_
      refine zz_iadd (npc := 182) dX8_hour_181 rfl ?_
      refine zz_iast (npc := 183) (by decide) (by rfl) dX8_hour_182 rfl (fun M4 => ?_)
      exact zz_vret dX8_hour_183
    · refine zz_aload_n (npc := 26) 0 rfl rfl dX8_hour_25 rfl ?_
      refine zz_iload_n (npc := 27) 3 rfl rfl dX8_hour_26 rfl ?_
      refine zz_iconst (npc := 28) 3 (by decide) dX8_hour_27 rfl ?_
      refine zz_callVi (npc := 31) (n := 2) (As := [.int y3, .int 3]) (by decide) (by rfl) rfl gX8_hour_X8_personIs rfl rfl rfl (by decide +kernel) ⟨Nat.le_of_ble_eq_true rfl, Nat.le_of_ble_eq_true rfl⟩ rfl rfl (Nat.le_of_ble_eq_true rfl) (mtX8_personIs E l  y3 3 M) dX8_hour_28 rfl (fun r6 M5 _ => ?_)
      refine zz_iload_n (npc := 32) 1 rfl rfl dX8_hour_31 rfl ?_
      refine zz_callSi (npc := 35) (n := 2) (As := [.int r6, .int y1]) gX8_hour_X8_has rfl rfl rfl (by decide +kernel) ⟨Nat.le_of_ble_eq_true rfl, Nat.le_of_ble_eq_true rfl⟩ rfl rfl (Nat.le_of_ble_eq_true rfl) (mtX8_has E l  r6 y1 M5) dX8_hour_32 rfl (fun r8 M7 _ => ?_)
      refine zz_istore (npc := 37) (lv1 := [(4, .int r8), (0, .ref (eA E 57)), (1, .int y1), (2, .int y2), (3, .int y3)]) dX8_hour_35 rfl (by decide) rfl ?_
      refine zz_aload_n (npc := 38) 1 rfl rfl dX8_hour_37 rfl ?_
      refine zz_iload_n (npc := 39) 2 rfl rfl dX8_hour_38 rfl ?_
      refine zz_callVi (npc := 42) (n := 1) (As := [.int y1]) (by decide) (by rfl) rfl gX8_hour_X8_isLit rfl rfl rfl (by decide +kernel) ⟨Nat.le_of_ble_eq_true rfl, Nat.le_of_ble_eq_true rfl⟩ rfl rfl (Nat.le_of_ble_eq_true rfl) (mtX8_isLit E l  y1 M7) dX8_hour_39 rfl (fun r10 M9 _ => ?_)
      refine zz_if_eq (tgt := 53) (npc := 45) dX8_hour_42 (by decide) rfl ?_ ?_
      · refine zz_sub (npc := 0) (lv1 := [(0, .ref (eA E 57)), (1, .int y1), (2, .int y2), (3, .int y3), (4, .int r8)]) [1, 2, 3, 4, 0] rfl ?_
        exact zX8_hour_L53 E l (fX8_hour_L15  n) ih y1 y2 y3 r8 M9
      · refine zz_iload_n (npc := 46) 3 rfl rfl dX8_hour_45 rfl ?_
        refine zz_iload_n (npc := 47) 4 rfl rfl dX8_hour_46 rfl ?_
        refine zz_callSi (npc := 50) (n := 2) (As := [.int y2, .int y3]) gX8_hour_X8_has rfl rfl rfl (by decide +kernel) ⟨Nat.le_of_ble_eq_true rfl, Nat.le_of_ble_eq_true rfl⟩ rfl rfl (Nat.le_of_ble_eq_true rfl) (mtX8_has E l  y2 y3 M9) dX8_hour_47 rfl (fun r12 M11 _ => ?_)
        refine zz_if_eq (tgt := 57) (npc := 53) dX8_hour_50 (by decide) rfl ?_ ?_
        · refine zz_iconst (npc := 58) 0 (by decide) dX8_hour_57 rfl ?_
          refine zz_sub (npc := 0) (lv1 := [(0, .ref (eA E 57)), (1, .int y1), (2, .int y2), (3, .int y3), (4, .int r8)]) [1, 2, 3, 4, 0] rfl ?_
          exact zX8_hour_L58 E l (fX8_hour_L15  n) ih y1 y2 y3 r8 0 M11
        · refine zz_sub (npc := 0) (lv1 := [(0, .ref (eA E 57)), (1, .int y1), (2, .int y2), (3, .int y3), (4, .int r8)]) [1, 2, 3, 4, 0] rfl ?_
          exact zX8_hour_L53 E l (fX8_hour_L15  n) ih y1 y2 y3 r8 M11
noncomputable def fX8_hour   (M : Mem) : Option (Unit × Mem) := (ck (inb 0 56) (bv (M 58 (ix 0)) fun v1 => (bd (fX8_whoHave v1 M) fun r3 M2 => (fX8_hour_L15  fu v1 r3 0 M2))))
set_option maxHeartbeats 4000000 in
set_option maxRecDepth 100000 in
theorem mtX8_hour (E : EV) (l : Launch)    (M : Mem) : CT E l yX8_hour wsX8_hour rmX8_hour vV [.ref (eA E 57)] (fX8_hour  M) M := by
  refine ct_of (cc := cX8_hour) (nL := 7) (ret := none) (by decide +kernel) rfl (Nat.le_of_ble_eq_true rfl) ?_
  show ZZ E l RX8 cX8_hour 7 none wsX8_hour rmX8_hour vV (fX8_hour  M) M [(0, .ref (eA E 57))] 0 []
  unfold fX8_hour
  refine zz_aload_n (npc := 1) 0 rfl rfl dX8_hour_0 rfl ?_
  refine zz_getR (npc := 4) (i := 0) (C0 := RX8) (T := TX8) (N := 29) (by decide) (by rfl) rfl (by decide) iX8_hour_8 (List.mem_of_getElem? (i := 1) rfl) rfl dX8_hour_1 rfl ?_
  refine zz_iconst (npc := 5) 0 (by decide) dX8_hour_4 rfl ?_
  refine zz_iald (npc := 6) (by decide) (by rfl) dX8_hour_5 rfl ?_
  refine zz_istore_nB (npc := 7) (lv1 := fun v1 => [(1, .int v1), (0, .ref (eA E 57))]) rfl dX8_hour_6 rfl (by decide) (fun _ => rfl) (fun v1 => ?_)
  refine zz_aload_n (npc := 8) 1 rfl rfl dX8_hour_7 rfl ?_
  refine zz_iload_n (npc := 9) 0 rfl rfl dX8_hour_8 rfl ?_
  refine zz_callVi (npc := 12) (n := 1) (As := [.int v1]) (by decide) (by rfl) rfl gX8_hour_X8_whoHave rfl rfl rfl (by decide +kernel) ⟨Nat.le_of_ble_eq_true rfl, Nat.le_of_ble_eq_true rfl⟩ rfl rfl (Nat.le_of_ble_eq_true rfl) (mtX8_whoHave E l  v1 M) dX8_hour_9 rfl (fun r3 M2 _ => ?_)
  refine zz_istore_n (npc := 13) (lv1 := [(2, .int r3), (1, .int v1), (0, .ref (eA E 57))]) rfl dX8_hour_12 rfl (by decide) rfl ?_
  refine zz_iconst (npc := 14) 0 (by decide) dX8_hour_13 rfl ?_
  refine zz_istore_n (npc := 15) (lv1 := [(3, .int 0), (2, .int r3), (1, .int v1), (0, .ref (eA E 57))]) rfl dX8_hour_14 rfl (by decide) rfl ?_
  refine zz_sub (npc := 0) (lv1 := [(0, .ref (eA E 57)), (1, .int v1), (2, .int r3), (3, .int 0)]) [3, 2, 1, 0] rfl ?_
  exact zX8_hour_L15 E l  fu v1 r3 0 M2
abbrev rmX8_hoursGo : Room := { frames := 7, cells := 0, slots := 0, locals := 164 }
theorem iX8_hoursGo_8 : ∀ w ∈ u_ws RX8 TX8 29, w ∈ wsX8_hoursGo := fun w h => List.mem_cons_of_mem _ (List.mem_append_right _ h)
noncomputable def fX8_hoursGo_L2   : Nat → Int32 → Int32 → Mem → Option (Int32 × Mem)
  | 0, _, _, _ => none
  | n + 1, y1, y2, M => (if y1 ≤ y2 then (ck (inb 1 56) (some (M 58 (ix 1), M))) else (bd (fX8_hour M) fun _ M1 => (bv (y2 + 1) fun v2 => (fX8_hoursGo_L2  n y1 v2 M1))))
set_option maxHeartbeats 4000000 in
set_option maxRecDepth 100000 in
theorem zX8_hoursGo_L2 (E : EV) (l : Launch)     : ∀ (n : Nat) (y1 : Int32) (y2 : Int32) (M : Mem), ZZ E l RX8 cX8_hoursGo 3 (some .int) wsX8_hoursGo rmX8_hoursGo vI (fX8_hoursGo_L2 n y1 y2 M) M [(0, .ref (eA E 57)), (1, .int y1), (2, .int y2)] 2 [] := by
  intro n
  induction n with
  | zero => intros; exact zz_none
  | succ n ih =>
    intro y1 y2 M
    rw [fX8_hoursGo_L2]
    refine zz_iload_n (npc := 3) 2 rfl rfl dX8_hoursGo_2 rfl ?_
    refine zz_iload_n (npc := 4) 1 rfl rfl dX8_hoursGo_3 rfl ?_
    refine zz_icmp_ge (tgt := 17) (npc := 7) dX8_hoursGo_4 (by decide) rfl ?_ ?_
    · refine zz_aload_n (npc := 18) 0 rfl rfl dX8_hoursGo_17 rfl ?_
      refine zz_getR (npc := 21) (i := 0) (C0 := RX8) (T := TX8) (N := 29) (by decide) (by rfl) rfl (by decide) iX8_hoursGo_8 (List.mem_of_getElem? (i := 1) rfl) rfl dX8_hoursGo_18 rfl ?_
      refine zz_iconst (npc := 22) 1 (by decide) dX8_hoursGo_21 rfl ?_
      refine zz_iald (npc := 23) (by decide) (by rfl) dX8_hoursGo_22 rfl ?_
      exact zz_iret dX8_hoursGo_23
    · refine zz_aload_n (npc := 8) 0 rfl rfl dX8_hoursGo_7 rfl ?_
      refine zz_callVv (npc := 11) (n := 0) (As := []) (by decide) (by rfl) rfl gX8_hoursGo_X8_hour rfl rfl rfl (by decide +kernel) ⟨Nat.le_of_ble_eq_true rfl, Nat.le_of_ble_eq_true rfl⟩ rfl rfl (Nat.le_of_ble_eq_true rfl) (mtX8_hour E l   M) dX8_hoursGo_8 rfl (fun _ M1 _ => ?_)
      refine zz_iincB (npc := 14) (y2 + 1) (lv1 := fun v2 => [(2, .int v2), (0, .ref (eA E 57)), (1, .int y1)]) dX8_hoursGo_11 rfl 2 rfl rfl (by decide) (fun _ => rfl) (fun v2 => ?_)
      refine zz_goto (npc := 0) (tgt := 2) dX8_hoursGo_14 (by decide) ?_
      refine zz_sub (npc := 0) (lv1 := [(0, .ref (eA E 57)), (1, .int y1), (2, .int v2)]) [1, 2, 0] rfl ?_
      exact ih y1 v2 M1
noncomputable def fX8_hoursGo  (x1 : Int32) (M : Mem) : Option (Int32 × Mem) := (fX8_hoursGo_L2  fu x1 0 M)
set_option maxHeartbeats 4000000 in
set_option maxRecDepth 100000 in
theorem mtX8_hoursGo (E : EV) (l : Launch)   (x1 : Int32) (M : Mem) : CT E l yX8_hoursGo wsX8_hoursGo rmX8_hoursGo vI [.ref (eA E 57), .int x1] (fX8_hoursGo x1 M) M := by
  refine ct_of (cc := cX8_hoursGo) (nL := 3) (ret := (some .int)) (by decide +kernel) rfl (Nat.le_of_ble_eq_true rfl) ?_
  show ZZ E l RX8 cX8_hoursGo 3 (some .int) wsX8_hoursGo rmX8_hoursGo vI (fX8_hoursGo x1 M) M [(0, .ref (eA E 57)), (1, .int x1)] 0 []
  unfold fX8_hoursGo
  refine zz_iconst (npc := 1) 0 (by decide) dX8_hoursGo_0 rfl ?_
  refine zz_istore_n (npc := 2) (lv1 := [(2, .int 0), (0, .ref (eA E 57)), (1, .int x1)]) rfl dX8_hoursGo_1 rfl (by decide) rfl ?_
  refine zz_sub (npc := 0) (lv1 := [(0, .ref (eA E 57)), (1, .int x1), (2, .int 0)]) [1, 2, 0] rfl ?_
  exact zX8_hoursGo_L2 E l  fu x1 0 M
abbrev rmX8_go : Room := { frames := 8, cells := 0, slots := 0, locals := 186 }
theorem iX8_go_8 : ∀ w ∈ u_ws RX8 TX8 29, w ∈ wsX8_go := fun w h => List.mem_cons_of_mem _ (List.mem_append_right _ h)
noncomputable def fX8_go  (x1 : Int32) (M : Mem) : Option (Int32 × Mem) := (bd (fX8_within x1 1 16 M) fun r2 M1 => (if r2 = 0 then (bd (fX8_finding (-1000001) M1) fun r8 M7 => (some (r8, M7))) else (ck (inb 0 56) (if ((M1 58 (ix 0)) + x1) ≤ 16 then (bd (fX8_hoursGo x1 M1) fun r4 M3 => (some (r4, M3))) else (bd (fX8_finding (-1000005) M1) fun r6 M5 => (some (r6, M5)))))))
set_option maxHeartbeats 4000000 in
set_option maxRecDepth 100000 in
theorem mtX8_go (E : EV) (l : Launch)   (x1 : Int32) (M : Mem) : CT E l yX8_go wsX8_go rmX8_go vI [.ref (eA E 57), .int x1] (fX8_go x1 M) M := by
  refine ct_of (cc := cX8_go) (nL := 2) (ret := (some .int)) (by decide +kernel) rfl (Nat.le_of_ble_eq_true rfl) ?_
  show ZZ E l RX8 cX8_go 2 (some .int) wsX8_go rmX8_go vI (fX8_go x1 M) M [(0, .ref (eA E 57)), (1, .int x1)] 0 []
  unfold fX8_go
  refine zz_iload_n (npc := 1) 1 rfl rfl dX8_go_0 rfl ?_
  refine zz_iconst (npc := 2) 1 (by decide) dX8_go_1 rfl ?_
  refine zz_bipush (npc := 4) 16 (by decide) dX8_go_2 rfl ?_
  refine zz_callSi (npc := 7) (n := 3) (As := [.int x1, .int 1, .int 16]) gX8_go_X8_within rfl rfl rfl (by decide +kernel) ⟨Nat.le_of_ble_eq_true rfl, Nat.le_of_ble_eq_true rfl⟩ rfl rfl (Nat.le_of_ble_eq_true rfl) (mtX8_within E l  x1 1 16 M) dX8_go_4 rfl (fun r2 M1 _ => ?_)
  refine zz_if_ne (tgt := 17) (npc := 10) dX8_go_7 (by decide) rfl ?_ ?_
  · refine zz_aload_n (npc := 18) 0 rfl rfl dX8_go_17 rfl ?_
    refine zz_getR (npc := 21) (i := 0) (C0 := RX8) (T := TX8) (N := 29) (by decide) (by rfl) rfl (by decide) iX8_go_8 (List.mem_of_getElem? (i := 2) rfl) rfl dX8_go_18 rfl ?_
    refine zz_iconst (npc := 22) 0 (by decide) dX8_go_21 rfl ?_
    refine zz_iald (npc := 23) (by decide) (by rfl) dX8_go_22 rfl ?_
    refine zz_iload_n (npc := 24) 1 rfl rfl dX8_go_23 rfl ?_
    refine zz_iadd (npc := 25) dX8_go_24 rfl ?_
    refine zz_bipush (npc := 27) 16 (by decide) dX8_go_25 rfl ?_
    refine zz_icmp_le (tgt := 39) (npc := 30) dX8_go_27 (by decide) rfl ?_ ?_
    · refine zz_aload_n (npc := 40) 0 rfl rfl dX8_go_39 rfl ?_
      refine zz_iload_n (npc := 41) 1 rfl rfl dX8_go_40 rfl ?_
      refine zz_callVi (npc := 44) (n := 1) (As := [.int x1]) (by decide) (by rfl) rfl gX8_go_X8_hoursGo rfl rfl rfl (by decide +kernel) ⟨Nat.le_of_ble_eq_true rfl, Nat.le_of_ble_eq_true rfl⟩ rfl rfl (Nat.le_of_ble_eq_true rfl) (mtX8_hoursGo E l  x1 M1) dX8_go_41 rfl (fun r4 M3 _ => ?_)
      exact zz_iret dX8_go_44
    · refine zz_aload_n (npc := 31) 0 rfl rfl dX8_go_30 rfl ?_
      refine zz_ldc (npc := 33) (-1000005) (List.mem_of_getElem? (i := 3) rfl) dX8_go_31 rfl ?_
      refine zz_callVi (npc := 36) (n := 1) (As := [.int (-1000005)]) (by decide) (by rfl) rfl gX8_go_X8_finding rfl rfl rfl (by decide +kernel) ⟨Nat.le_of_ble_eq_true rfl, Nat.le_of_ble_eq_true rfl⟩ rfl rfl (Nat.le_of_ble_eq_true rfl) (mtX8_finding E l  (-1000005) M1) dX8_go_33 rfl (fun r6 M5 _ => ?_)
      refine zz_goto (npc := 0) (tgt := 44) dX8_go_36 (by decide) ?_
      exact zz_iret dX8_go_44
  · refine zz_aload_n (npc := 11) 0 rfl rfl dX8_go_10 rfl ?_
    refine zz_ldc (npc := 13) (-1000001) (List.mem_of_getElem? (i := 1) rfl) dX8_go_11 rfl ?_
    refine zz_callVi (npc := 16) (n := 1) (As := [.int (-1000001)]) (by decide) (by rfl) rfl gX8_go_X8_finding rfl rfl rfl (by decide +kernel) ⟨Nat.le_of_ble_eq_true rfl, Nat.le_of_ble_eq_true rfl⟩ rfl rfl (Nat.le_of_ble_eq_true rfl) (mtX8_finding E l  (-1000001) M1) dX8_go_13 rfl (fun r8 M7 _ => ?_)
    exact zz_iret dX8_go_16
abbrev rmX8_at_ : Room := { frames := 1, cells := 0, slots := 0, locals := 23 }
noncomputable def fX8_at_  (x1 : Int32) (M : Mem) : Option (Int32 × Mem) := (bd (fX8_within x1 0 16 M) fun r2 M1 => (if r2 = 0 then (bd (fX8_finding (-1000001) M1) fun r4 M3 => (some (r4, M3))) else (bd (fX8_become 0 x1 M1) fun r6 M5 => (some (r6, M5)))))
set_option maxHeartbeats 4000000 in
set_option maxRecDepth 100000 in
theorem mtX8_at_ (E : EV) (l : Launch)   (x1 : Int32) (M : Mem) : CT E l yX8_at_ wsX8_at_ rmX8_at_ vI [.ref (eA E 57), .int x1] (fX8_at_ x1 M) M := by
  refine ct_of (cc := cX8_at_) (nL := 2) (ret := (some .int)) (by decide +kernel) rfl (Nat.le_of_ble_eq_true rfl) ?_
  show ZZ E l RX8 cX8_at_ 2 (some .int) wsX8_at_ rmX8_at_ vI (fX8_at_ x1 M) M [(0, .ref (eA E 57)), (1, .int x1)] 0 []
  unfold fX8_at_
  refine zz_iload_n (npc := 1) 1 rfl rfl dX8_at__0 rfl ?_
  refine zz_iconst (npc := 2) 0 (by decide) dX8_at__1 rfl ?_
  refine zz_bipush (npc := 4) 16 (by decide) dX8_at__2 rfl ?_
  refine zz_callSi (npc := 7) (n := 3) (As := [.int x1, .int 0, .int 16]) gX8_at__X8_within rfl rfl rfl (by decide +kernel) ⟨Nat.le_of_ble_eq_true rfl, Nat.le_of_ble_eq_true rfl⟩ rfl rfl (Nat.le_of_ble_eq_true rfl) (mtX8_within E l  x1 0 16 M) dX8_at__4 rfl (fun r2 M1 _ => ?_)
  refine zz_if_eq (tgt := 19) (npc := 10) dX8_at__7 (by decide) rfl ?_ ?_
  · refine zz_aload_n (npc := 20) 0 rfl rfl dX8_at__19 rfl ?_
    refine zz_ldc (npc := 22) (-1000001) (List.mem_of_getElem? (i := 1) rfl) dX8_at__20 rfl ?_
    refine zz_callVi (npc := 25) (n := 1) (As := [.int (-1000001)]) (by decide) (by rfl) rfl gX8_at__X8_finding rfl rfl rfl (by decide +kernel) ⟨Nat.le_of_ble_eq_true rfl, Nat.le_of_ble_eq_true rfl⟩ rfl rfl (Nat.le_of_ble_eq_true rfl) (mtX8_finding E l  (-1000001) M1) dX8_at__22 rfl (fun r4 M3 _ => ?_)
    exact zz_iret dX8_at__25
  · refine zz_aload_n (npc := 11) 0 rfl rfl dX8_at__10 rfl ?_
    refine zz_iconst (npc := 12) 0 (by decide) dX8_at__11 rfl ?_
    refine zz_iload_n (npc := 13) 1 rfl rfl dX8_at__12 rfl ?_
    refine zz_callVi (npc := 16) (n := 2) (As := [.int 0, .int x1]) (by decide) (by rfl) rfl gX8_at__X8_become rfl rfl rfl (by decide +kernel) ⟨Nat.le_of_ble_eq_true rfl, Nat.le_of_ble_eq_true rfl⟩ rfl rfl (Nat.le_of_ble_eq_true rfl) (mtX8_become E l  0 x1 M1) dX8_at__13 rfl (fun r6 M5 _ => ?_)
    refine zz_goto (npc := 0) (tgt := 25) dX8_at__16 (by decide) ?_
    exact zz_iret dX8_at__25
abbrev rmX8_now : Room := { frames := 6, cells := 0, slots := 0, locals := 138 }
theorem iX8_now_8 : ∀ w ∈ u_ws RX8 TX8 29, w ∈ wsX8_now := fun w h => List.mem_cons_of_mem _ (List.mem_append_right _ h)
noncomputable def fX8_now  (x1 : Int32) (M : Mem) : Option (Int32 × Mem) := (bd (fX8_within x1 0 4 M) fun r2 M1 => (if r2 = 0 then (bd (fX8_finding (-1000001) M1) fun r8 M7 => (some (r8, M7))) else (if 4 ≤ x1 then (bd (fX8_isOver M1) fun r4 M3 => (if r4 = 0 then (ck (inb 0 56) (bd (fX8_whoHave (M3 58 (ix 0)) M3) fun r6 M5 => (some (r6, M5)))) else (some (0, M3)))) else (ck (inb x1 56) (some (M1 58 (ix x1), M1))))))
set_option maxHeartbeats 4000000 in
set_option maxRecDepth 100000 in
theorem mtX8_now (E : EV) (l : Launch)   (x1 : Int32) (M : Mem) : CT E l yX8_now wsX8_now rmX8_now vI [.ref (eA E 57), .int x1] (fX8_now x1 M) M := by
  refine ct_of (cc := cX8_now) (nL := 2) (ret := (some .int)) (by decide +kernel) rfl (Nat.le_of_ble_eq_true rfl) ?_
  show ZZ E l RX8 cX8_now 2 (some .int) wsX8_now rmX8_now vI (fX8_now x1 M) M [(0, .ref (eA E 57)), (1, .int x1)] 0 []
  unfold fX8_now
  refine zz_iload_n (npc := 1) 1 rfl rfl dX8_now_0 rfl ?_
  refine zz_iconst (npc := 2) 0 (by decide) dX8_now_1 rfl ?_
  refine zz_iconst (npc := 3) 4 (by decide) dX8_now_2 rfl ?_
  refine zz_callSi (npc := 6) (n := 3) (As := [.int x1, .int 0, .int 4]) gX8_now_X8_within rfl rfl rfl (by decide +kernel) ⟨Nat.le_of_ble_eq_true rfl, Nat.le_of_ble_eq_true rfl⟩ rfl rfl (Nat.le_of_ble_eq_true rfl) (mtX8_within E l  x1 0 4 M) dX8_now_3 rfl (fun r2 M1 _ => ?_)
  refine zz_if_ne (tgt := 16) (npc := 9) dX8_now_6 (by decide) rfl ?_ ?_
  · refine zz_iload_n (npc := 17) 1 rfl rfl dX8_now_16 rfl ?_
    refine zz_iconst (npc := 18) 4 (by decide) dX8_now_17 rfl ?_
    refine zz_icmp_ge (tgt := 30) (npc := 21) dX8_now_18 (by decide) rfl ?_ ?_
    · refine zz_aload_n (npc := 31) 0 rfl rfl dX8_now_30 rfl ?_
      refine zz_callVi (npc := 34) (n := 0) (As := []) (by decide) (by rfl) rfl gX8_now_X8_isOver rfl rfl rfl (by decide +kernel) ⟨Nat.le_of_ble_eq_true rfl, Nat.le_of_ble_eq_true rfl⟩ rfl rfl (Nat.le_of_ble_eq_true rfl) (mtX8_isOver E l   M1) dX8_now_31 rfl (fun r4 M3 _ => ?_)
      refine zz_if_eq (tgt := 41) (npc := 37) dX8_now_34 (by decide) rfl ?_ ?_
      · refine zz_aload_n (npc := 42) 0 rfl rfl dX8_now_41 rfl ?_
        refine zz_aload_n (npc := 43) 0 rfl rfl dX8_now_42 rfl ?_
        refine zz_getR (npc := 46) (i := 0) (C0 := RX8) (T := TX8) (N := 29) (by decide) (by rfl) rfl (by decide) iX8_now_8 (List.mem_of_getElem? (i := 2) rfl) rfl dX8_now_43 rfl ?_
        refine zz_iconst (npc := 47) 0 (by decide) dX8_now_46 rfl ?_
        refine zz_iald (npc := 48) (by decide) (by rfl) dX8_now_47 rfl ?_
        refine zz_callVi (npc := 51) (n := 1) (As := [.int (M3 58 (ix 0))]) (by decide) (by rfl) rfl gX8_now_X8_whoHave rfl rfl rfl (by decide +kernel) ⟨Nat.le_of_ble_eq_true rfl, Nat.le_of_ble_eq_true rfl⟩ rfl rfl (Nat.le_of_ble_eq_true rfl) (mtX8_whoHave E l  (M3 58 (ix 0)) M3) dX8_now_48 rfl (fun r6 M5 _ => ?_)
        exact zz_iret dX8_now_51
      · refine zz_iconst (npc := 38) 0 (by decide) dX8_now_37 rfl ?_
        refine zz_goto (npc := 0) (tgt := 51) dX8_now_38 (by decide) ?_
        exact zz_iret dX8_now_51
    · refine zz_aload_n (npc := 22) 0 rfl rfl dX8_now_21 rfl ?_
      refine zz_getR (npc := 25) (i := 0) (C0 := RX8) (T := TX8) (N := 29) (by decide) (by rfl) rfl (by decide) iX8_now_8 (List.mem_of_getElem? (i := 2) rfl) rfl dX8_now_22 rfl ?_
      refine zz_iload_n (npc := 26) 1 rfl rfl dX8_now_25 rfl ?_
      refine zz_iald (npc := 27) (by decide) (by rfl) dX8_now_26 rfl ?_
      refine zz_goto (npc := 0) (tgt := 51) dX8_now_27 (by decide) ?_
      exact zz_iret dX8_now_51
  · refine zz_aload_n (npc := 10) 0 rfl rfl dX8_now_9 rfl ?_
    refine zz_ldc (npc := 12) (-1000001) (List.mem_of_getElem? (i := 1) rfl) dX8_now_10 rfl ?_
    refine zz_callVi (npc := 15) (n := 1) (As := [.int (-1000001)]) (by decide) (by rfl) rfl gX8_now_X8_finding rfl rfl rfl (by decide +kernel) ⟨Nat.le_of_ble_eq_true rfl, Nat.le_of_ble_eq_true rfl⟩ rfl rfl (Nat.le_of_ble_eq_true rfl) (mtX8_finding E l  (-1000001) M1) dX8_now_12 rfl (fun r8 M7 _ => ?_)
    exact zz_iret dX8_now_15
abbrev rmX8_findRest : Room := { frames := 7, cells := 0, slots := 0, locals := 164 }
theorem iX8_findRest_8 : ∀ w ∈ u_ws RX8 TX8 29, w ∈ wsX8_findRest := fun w h => List.mem_cons_of_mem _ (List.mem_append_right _ h)
noncomputable def fX8_findRest_L105  (k21 : Int32 → Mem → Option (Unit × Mem)) (y1 : Int32) (w0 : Int32) (w1 : Int32) (M : Mem) : Option (Unit × Mem) := (wm (wr M 57 5 (w1 ||| w0)) fun M23 => (bd (fX8_hour M23) fun _ M24 => (k21 y1 M24)))
set_option maxHeartbeats 4000000 in
set_option maxRecDepth 100000 in
theorem zX8_findRest_L105 (E : EV) (l : Launch)   (k21 : Int32 → Mem → Option (Unit × Mem)) (hk21 : ∀ (y1_ : Int32) (M_ : Mem), ZZ E l RX8 cX8_findRest 4 none wsX8_findRest rmX8_findRest vV (k21 y1_ M_) M_ [(0, .ref (eA E 57)), (1, .int y1_)] 21 []) : ∀ (y1 : Int32) (w0 : Int32) (w1 : Int32) (M : Mem), ZZ E l RX8 cX8_findRest 4 none wsX8_findRest rmX8_findRest vV (fX8_findRest_L105 k21 y1 w0 w1 M) M [(0, .ref (eA E 57)), (1, .int y1)] 105 [.int w0, .int w1, .ref (eA E 57)] := by
  intro y1 w0 w1 M
  unfold fX8_findRest_L105
  refine zz_ior (npc := 106) dX8_findRest_105 rfl ?_
  refine zz_putI (npc := 109) (i := 5) (C0 := RX8) (T := TX8) (N := 29) (by decide) (by rfl) rfl (by decide) iX8_findRest_8 (List.mem_of_getElem? (i := 3) rfl) tyX8_ok nmX8 rfl rfl rfl dX8_findRest_106 rfl (fun M23 => ?_)
  refine zz_aload_n (npc := 110) 0 rfl rfl dX8_findRest_109 rfl ?_
  refine zz_callVv (npc := 113) (n := 0) (As := []) (by decide) (by rfl) rfl gX8_findRest_X8_hour rfl rfl rfl (by decide +kernel) ⟨Nat.le_of_ble_eq_true rfl, Nat.le_of_ble_eq_true rfl⟩ rfl rfl (Nat.le_of_ble_eq_true rfl) (mtX8_hour E l   M23) dX8_findRest_110 rfl (fun _ M24 _ => ?_)
  refine zz_goto (npc := 0) (tgt := 21) dX8_findRest_113 (by decide) ?_
  exact hk21 y1 M24
noncomputable def fX8_findRest_L100  (k21 : Int32 → Mem → Option (Unit × Mem)) (y1 : Int32) (y2 : Int32) (w0 : Int32) (M : Mem) : Option (Unit × Mem) := (fX8_findRest_L105 k21 y1 y2 w0 M)
set_option maxHeartbeats 4000000 in
set_option maxRecDepth 100000 in
theorem zX8_findRest_L100 (E : EV) (l : Launch)   (k21 : Int32 → Mem → Option (Unit × Mem)) (hk21 : ∀ (y1_ : Int32) (M_ : Mem), ZZ E l RX8 cX8_findRest 4 none wsX8_findRest rmX8_findRest vV (k21 y1_ M_) M_ [(0, .ref (eA E 57)), (1, .int y1_)] 21 []) : ∀ (y1 : Int32) (y2 : Int32) (w0 : Int32) (M : Mem), ZZ E l RX8 cX8_findRest 4 none wsX8_findRest rmX8_findRest vV (fX8_findRest_L100 k21 y1 y2 w0 M) M [(0, .ref (eA E 57)), (1, .int y1), (2, .int y2)] 100 [.int w0, .ref (eA E 57)] := by
  intro y1 y2 w0 M
  unfold fX8_findRest_L100
  refine zz_iload_n (npc := 101) 2 rfl rfl dX8_findRest_100 rfl ?_
  refine zz_goto (npc := 0) (tgt := 105) dX8_findRest_101 (by decide) ?_
  refine zz_sub (npc := 0) (lv1 := [(0, .ref (eA E 57)), (1, .int y1)]) [0, 1] rfl ?_
  exact zX8_findRest_L105 E l k21 hk21 y1 y2 w0 M
noncomputable def fX8_findRest_L63  (k21 : Int32 → Mem → Option (Unit × Mem)) (y1 : Int32) (y2 : Int32) (y3 : Int32) (w0 : Int32) (w1 : Int32) (M : Mem) : Option (Unit × Mem) := (wm (wr M 57 6 (w1 ||| w0)) fun M18 => (if y3 = 0 then (ck (inb 0 56) (bd (fX8_isLit (M18 58 (ix 0)) M18) fun r20 M19 => (if r20 = 0 then (fX8_findRest_L100 k21 y1 y2 (M18 57 5) M19) else (bd (fX8_personIs y1 3 M19) fun r22 M21 => (if (r22 &&& y2) = 0 then (fX8_findRest_L100 k21 y1 y2 (M18 57 5) M21) else (fX8_findRest_L105 k21 y1 0 (M18 57 5) M21)))))) else (fX8_findRest_L100 k21 y1 y2 (M18 57 5) M18)))
set_option maxHeartbeats 4000000 in
set_option maxRecDepth 100000 in
theorem zX8_findRest_L63 (E : EV) (l : Launch)   (k21 : Int32 → Mem → Option (Unit × Mem)) (hk21 : ∀ (y1_ : Int32) (M_ : Mem), ZZ E l RX8 cX8_findRest 4 none wsX8_findRest rmX8_findRest vV (k21 y1_ M_) M_ [(0, .ref (eA E 57)), (1, .int y1_)] 21 []) : ∀ (y1 : Int32) (y2 : Int32) (y3 : Int32) (w0 : Int32) (w1 : Int32) (M : Mem), ZZ E l RX8 cX8_findRest 4 none wsX8_findRest rmX8_findRest vV (fX8_findRest_L63 k21 y1 y2 y3 w0 w1 M) M [(0, .ref (eA E 57)), (1, .int y1), (2, .int y2), (3, .int y3)] 63 [.int w0, .int w1, .ref (eA E 57)] := by
  intro y1 y2 y3 w0 w1 M
  unfold fX8_findRest_L63
  refine zz_ior (npc := 64) dX8_findRest_63 rfl ?_
  refine zz_putI (npc := 67) (i := 6) (C0 := RX8) (T := TX8) (N := 29) (by decide) (by rfl) rfl (by decide) iX8_findRest_8 (List.mem_of_getElem? (i := 4) rfl) tyX8_ok nmX8 rfl rfl rfl dX8_findRest_64 rfl (fun M18 => ?_)
  refine zz_aload_n (npc := 68) 0 rfl rfl dX8_findRest_67 rfl ?_
  refine zz_dup (npc := 69) rfl dX8_findRest_68 rfl ?_
  refine zz_getI (npc := 72) (i := 5) (C0 := RX8) (T := TX8) (N := 29) (by decide) (by rfl) rfl (by decide) iX8_findRest_8 (List.mem_of_getElem? (i := 3) rfl) rfl dX8_findRest_69 rfl ?_
  refine zz_iload_n (npc := 73) 3 rfl rfl dX8_findRest_72 rfl ?_
  refine zz_if_ne (tgt := 100) (npc := 76) dX8_findRest_73 (by decide) rfl ?_ ?_
  · refine zz_sub (npc := 0) (lv1 := [(0, .ref (eA E 57)), (1, .int y1), (2, .int y2)]) [0, 1, 2] rfl ?_
    exact zX8_findRest_L100 E l k21 hk21 y1 y2 (M18 57 5) M18
  · refine zz_aload_n (npc := 77) 0 rfl rfl dX8_findRest_76 rfl ?_
    refine zz_aload_n (npc := 78) 0 rfl rfl dX8_findRest_77 rfl ?_
    refine zz_getR (npc := 81) (i := 0) (C0 := RX8) (T := TX8) (N := 29) (by decide) (by rfl) rfl (by decide) iX8_findRest_8 (List.mem_of_getElem? (i := 1) rfl) rfl dX8_findRest_78 rfl ?_
    refine zz_iconst (npc := 82) 0 (by decide) dX8_findRest_81 rfl ?_
    refine zz_iald (npc := 83) (by decide) (by rfl) dX8_findRest_82 rfl ?_
    refine zz_callVi (npc := 86) (n := 1) (As := [.int (M18 58 (ix 0))]) (by decide) (by rfl) rfl gX8_findRest_X8_isLit rfl rfl rfl (by decide +kernel) ⟨Nat.le_of_ble_eq_true rfl, Nat.le_of_ble_eq_true rfl⟩ rfl rfl (Nat.le_of_ble_eq_true rfl) (mtX8_isLit E l  (M18 58 (ix 0)) M18) dX8_findRest_83 rfl (fun r20 M19 _ => ?_)
    refine zz_if_eq (tgt := 100) (npc := 89) dX8_findRest_86 (by decide) rfl ?_ ?_
    · refine zz_sub (npc := 0) (lv1 := [(0, .ref (eA E 57)), (1, .int y1), (2, .int y2)]) [0, 1, 2] rfl ?_
      exact zX8_findRest_L100 E l k21 hk21 y1 y2 (M18 57 5) M19
    · refine zz_aload_n (npc := 90) 0 rfl rfl dX8_findRest_89 rfl ?_
      refine zz_iload_n (npc := 91) 1 rfl rfl dX8_findRest_90 rfl ?_
      refine zz_iconst (npc := 92) 3 (by decide) dX8_findRest_91 rfl ?_
      refine zz_callVi (npc := 95) (n := 2) (As := [.int y1, .int 3]) (by decide) (by rfl) rfl gX8_findRest_X8_personIs rfl rfl rfl (by decide +kernel) ⟨Nat.le_of_ble_eq_true rfl, Nat.le_of_ble_eq_true rfl⟩ rfl rfl (Nat.le_of_ble_eq_true rfl) (mtX8_personIs E l  y1 3 M19) dX8_findRest_92 rfl (fun r22 M21 _ => ?_)
      refine zz_iload_n (npc := 96) 2 rfl rfl dX8_findRest_95 rfl ?_
      refine zz_iand (npc := 97) dX8_findRest_96 rfl ?_
      refine zz_if_ne (tgt := 104) (npc := 100) dX8_findRest_97 (by decide) rfl ?_ ?_
      · refine zz_iconst (npc := 105) 0 (by decide) dX8_findRest_104 rfl ?_
        refine zz_sub (npc := 0) (lv1 := [(0, .ref (eA E 57)), (1, .int y1)]) [0, 1] rfl ?_
        exact zX8_findRest_L105 E l k21 hk21 y1 0 (M18 57 5) M21
      · refine zz_sub (npc := 0) (lv1 := [(0, .ref (eA E 57)), (1, .int y1), (2, .int y2)]) [0, 1, 2] rfl ?_
        exact zX8_findRest_L100 E l k21 hk21 y1 y2 (M18 57 5) M21
noncomputable def fX8_findRest_L21   : Nat → Int32 → Mem → Option (Unit × Mem)
  | 0, _, _ => none
  | n + 1, y1, M => (bd (fX8_isOver M) fun r5 M4 => (if r5 = 0 then (ck (inb 0 56) (bv (shl 1 (M4 58 (ix 0))) fun v15 => (ck (inb 0 56) (bd (fX8_hasShadow y1 (M4 58 (ix 0)) M4) fun r17 M16 => (if r17 = 0 then (fX8_findRest_L63 (fX8_findRest_L21  n) y1 v15 r17 0 (M16 57 6) M16) else (fX8_findRest_L63 (fX8_findRest_L21  n) y1 v15 r17 v15 (M16 57 6) M16)))))) else (bd (fX8_personIs y1 1 M4) fun r7 M6 => (wm (wr M6 57 8 r7) fun M8 => (bd (fX8_personIs y1 3 M8) fun r10 M9 => (bd (fX8_bits ((M8 57 5) &&& r10) M9) fun r12 M11 => (wm (wr M11 57 7 r12) fun M13 => (bd (fX8_copyRow 60 58 M13) fun _ M14 => (some ((), M14))))))))))
set_option maxHeartbeats 4000000 in
set_option maxRecDepth 100000 in
theorem zX8_findRest_L21 (E : EV) (l : Launch)     : ∀ (n : Nat) (y1 : Int32) (M : Mem), ZZ E l RX8 cX8_findRest 4 none wsX8_findRest rmX8_findRest vV (fX8_findRest_L21 n y1 M) M [(0, .ref (eA E 57)), (1, .int y1)] 21 [] := by
  intro n
  induction n with
  | zero => intros; exact zz_none
  | succ n ih =>
    intro y1 M
    rw [fX8_findRest_L21]
    refine zz_aload_n (npc := 22) 0 rfl rfl dX8_findRest_21 rfl ?_
    refine zz_callVi (npc := 25) (n := 0) (As := []) (by decide) (by rfl) rfl gX8_findRest_X8_isOver rfl rfl rfl (by decide +kernel) ⟨Nat.le_of_ble_eq_true rfl, Nat.le_of_ble_eq_true rfl⟩ rfl rfl (Nat.le_of_ble_eq_true rfl) (mtX8_isOver E l   M) dX8_findRest_22 rfl (fun r5 M4 _ => ?_)
    refine zz_if_ne (tgt := 116) (npc := 28) dX8_findRest_25 (by decide) rfl ?_ ?_
    · refine zz_aload_n (npc := 117) 0 rfl rfl dX8_findRest_116 rfl ?_
      refine zz_aload_n (npc := 118) 0 rfl rfl dX8_findRest_117 rfl ?_
      refine zz_iload_n (npc := 119) 1 rfl rfl dX8_findRest_118 rfl ?_
      refine zz_iconst (npc := 120) 1 (by decide) dX8_findRest_119 rfl ?_
      refine zz_callVi (npc := 123) (n := 2) (As := [.int y1, .int 1]) (by decide) (by rfl) rfl gX8_findRest_X8_personIs rfl rfl rfl (by decide +kernel) ⟨Nat.le_of_ble_eq_true rfl, Nat.le_of_ble_eq_true rfl⟩ rfl rfl (Nat.le_of_ble_eq_true rfl) (mtX8_personIs E l  y1 1 M4) dX8_findRest_120 rfl (fun r7 M6 _ => ?_)
      refine zz_putI (npc := 126) (i := 8) (C0 := RX8) (T := TX8) (N := 29) (by decide) (by rfl) rfl (by decide) iX8_findRest_8 (List.mem_of_getElem? (i := 5) rfl) tyX8_ok nmX8 rfl rfl rfl dX8_findRest_123 rfl (fun M8 => ?_)
      refine zz_aload_n (npc := 127) 0 rfl rfl dX8_findRest_126 rfl ?_
      refine zz_aload_n (npc := 128) 0 rfl rfl dX8_findRest_127 rfl ?_
      refine zz_getI (npc := 131) (i := 5) (C0 := RX8) (T := TX8) (N := 29) (by decide) (by rfl) rfl (by decide) iX8_findRest_8 (List.mem_of_getElem? (i := 3) rfl) rfl dX8_findRest_128 rfl ?_
      refine zz_aload_n (npc := 132) 0 rfl rfl dX8_findRest_131 rfl ?_
      refine zz_iload_n (npc := 133) 1 rfl rfl dX8_findRest_132 rfl ?_
      refine zz_iconst (npc := 134) 3 (by decide) dX8_findRest_133 rfl ?_
      refine zz_callVi (npc := 137) (n := 2) (As := [.int y1, .int 3]) (by decide) (by rfl) rfl gX8_findRest_X8_personIs rfl rfl rfl (by decide +kernel) ⟨Nat.le_of_ble_eq_true rfl, Nat.le_of_ble_eq_true rfl⟩ rfl rfl (Nat.le_of_ble_eq_true rfl) (mtX8_personIs E l  y1 3 M8) dX8_findRest_134 rfl (fun r10 M9 _ => ?_)
      refine zz_iand (npc := 138) dX8_findRest_137 rfl ?_
      refine zz_callSi (npc := 141) (n := 1) (As := [.int ((M8 57 5) &&& r10)]) gX8_findRest_X8_bits rfl rfl rfl (by decide +kernel) ⟨Nat.le_of_ble_eq_true rfl, Nat.le_of_ble_eq_true rfl⟩ rfl rfl (Nat.le_of_ble_eq_true rfl) (mtX8_bits E l  ((M8 57 5) &&& r10) M9) dX8_findRest_138 rfl (fun r12 M11 _ => ?_)
      refine zz_putI (npc := 144) (i := 7) (C0 := RX8) (T := TX8) (N := 29) (by decide) (by rfl) rfl (by decide) iX8_findRest_8 (List.mem_of_getElem? (i := 6) rfl) tyX8_ok nmX8 rfl rfl rfl dX8_findRest_141 rfl (fun M13 => ?_)
      refine zz_aload_n (npc := 145) 0 rfl rfl dX8_findRest_144 rfl ?_
      refine zz_getR (npc := 148) (i := 2) (C0 := RX8) (T := TX8) (N := 29) (by decide) (by rfl) rfl (by decide) iX8_findRest_8 (List.mem_of_getElem? (i := 2) rfl) rfl dX8_findRest_145 rfl ?_
      refine zz_aload_n (npc := 149) 0 rfl rfl dX8_findRest_148 rfl ?_
      refine zz_getR (npc := 152) (i := 0) (C0 := RX8) (T := TX8) (N := 29) (by decide) (by rfl) rfl (by decide) iX8_findRest_8 (List.mem_of_getElem? (i := 1) rfl) rfl dX8_findRest_149 rfl ?_
      refine zz_callSv (npc := 155) (n := 2) (As := [.ref (eA E 60), .ref (eA E 58)]) gX8_findRest_X8_copyRow rfl rfl rfl (by decide +kernel) ⟨Nat.le_of_ble_eq_true rfl, Nat.le_of_ble_eq_true rfl⟩ rfl rfl (Nat.le_of_ble_eq_true rfl) (mtX8_copyRow E l 60 58 ⟨(by decide), (by rfl)⟩ ⟨(by decide), (by rfl)⟩  M13) dX8_findRest_152 rfl (fun _ M14 _ => ?_)
      exact zz_vret dX8_findRest_155
    · refine zz_iconst (npc := 29) 1 (by decide) dX8_findRest_28 rfl ?_
      refine zz_aload_n (npc := 30) 0 rfl rfl dX8_findRest_29 rfl ?_
      refine zz_getR (npc := 33) (i := 0) (C0 := RX8) (T := TX8) (N := 29) (by decide) (by rfl) rfl (by decide) iX8_findRest_8 (List.mem_of_getElem? (i := 1) rfl) rfl dX8_findRest_30 rfl ?_
      refine zz_iconst (npc := 34) 0 (by decide) dX8_findRest_33 rfl ?_
      refine zz_iald (npc := 35) (by decide) (by rfl) dX8_findRest_34 rfl ?_
      refine zz_ishl (npc := 36) dX8_findRest_35 rfl ?_
      refine zz_istore_nB (npc := 37) (lv1 := fun v15 => [(2, .int v15), (0, .ref (eA E 57)), (1, .int y1)]) rfl dX8_findRest_36 rfl (by decide) (fun _ => rfl) (fun v15 => ?_)
      refine zz_aload_n (npc := 38) 1 rfl rfl dX8_findRest_37 rfl ?_
      refine zz_iload_n (npc := 39) 2 rfl rfl dX8_findRest_38 rfl ?_
      refine zz_aload_n (npc := 40) 1 rfl rfl dX8_findRest_39 rfl ?_
      refine zz_getR (npc := 43) (i := 0) (C0 := RX8) (T := TX8) (N := 29) (by decide) (by rfl) rfl (by decide) iX8_findRest_8 (List.mem_of_getElem? (i := 1) rfl) rfl dX8_findRest_40 rfl ?_
      refine zz_iconst (npc := 44) 0 (by decide) dX8_findRest_43 rfl ?_
      refine zz_iald (npc := 45) (by decide) (by rfl) dX8_findRest_44 rfl ?_
      refine zz_callVi (npc := 48) (n := 2) (As := [.int y1, .int (M4 58 (ix 0))]) (by decide) (by rfl) rfl gX8_findRest_X8_hasShadow rfl rfl rfl (by decide +kernel) ⟨Nat.le_of_ble_eq_true rfl, Nat.le_of_ble_eq_true rfl⟩ rfl rfl (Nat.le_of_ble_eq_true rfl) (mtX8_hasShadow E l  y1 (M4 58 (ix 0)) M4) dX8_findRest_45 rfl (fun r17 M16 _ => ?_)
      refine zz_istore_n (npc := 49) (lv1 := [(3, .int r17), (2, .int v15), (0, .ref (eA E 57)), (1, .int y1)]) rfl dX8_findRest_48 rfl (by decide) rfl ?_
      refine zz_aload_n (npc := 50) 2 rfl rfl dX8_findRest_49 rfl ?_
      refine zz_dup (npc := 51) rfl dX8_findRest_50 rfl ?_
      refine zz_getI (npc := 54) (i := 6) (C0 := RX8) (T := TX8) (N := 29) (by decide) (by rfl) rfl (by decide) iX8_findRest_8 (List.mem_of_getElem? (i := 4) rfl) rfl dX8_findRest_51 rfl ?_
      refine zz_iload_n (npc := 55) 0 rfl rfl dX8_findRest_54 rfl ?_
      refine zz_if_eq (tgt := 62) (npc := 58) dX8_findRest_55 (by decide) rfl ?_ ?_
      · refine zz_iconst (npc := 63) 0 (by decide) dX8_findRest_62 rfl ?_
        refine zz_sub (npc := 0) (lv1 := [(0, .ref (eA E 57)), (1, .int y1), (2, .int v15), (3, .int r17)]) [2, 3, 1, 0] rfl ?_
        exact zX8_findRest_L63 E l (fX8_findRest_L21  n) ih y1 v15 r17 0 (M16 57 6) M16
      · refine zz_iload_n (npc := 59) 1 rfl rfl dX8_findRest_58 rfl ?_
        refine zz_goto (npc := 0) (tgt := 63) dX8_findRest_59 (by decide) ?_
        refine zz_sub (npc := 0) (lv1 := [(0, .ref (eA E 57)), (1, .int y1), (2, .int v15), (3, .int r17)]) [2, 3, 1, 0] rfl ?_
        exact zX8_findRest_L63 E l (fX8_findRest_L21  n) ih y1 v15 r17 v15 (M16 57 6) M16
noncomputable def fX8_findRest  (x1 : Int32) (M : Mem) : Option (Unit × Mem) := (bd (fX8_copyRow 58 60 M) fun _ M1 => (wm (wr M1 57 5 0) fun M2 => (wm (wr M2 57 6 0) fun M3 => (fX8_findRest_L21  fu x1 M3))))
set_option maxHeartbeats 4000000 in
set_option maxRecDepth 100000 in
theorem mtX8_findRest (E : EV) (l : Launch)   (x1 : Int32) (M : Mem) : CT E l yX8_findRest wsX8_findRest rmX8_findRest vV [.ref (eA E 57), .int x1] (fX8_findRest x1 M) M := by
  refine ct_of (cc := cX8_findRest) (nL := 4) (ret := none) (by decide +kernel) rfl (Nat.le_of_ble_eq_true rfl) ?_
  show ZZ E l RX8 cX8_findRest 4 none wsX8_findRest rmX8_findRest vV (fX8_findRest x1 M) M [(0, .ref (eA E 57)), (1, .int x1)] 0 []
  unfold fX8_findRest
  refine zz_aload_n (npc := 1) 0 rfl rfl dX8_findRest_0 rfl ?_
  refine zz_getR (npc := 4) (i := 0) (C0 := RX8) (T := TX8) (N := 29) (by decide) (by rfl) rfl (by decide) iX8_findRest_8 (List.mem_of_getElem? (i := 1) rfl) rfl dX8_findRest_1 rfl ?_
  refine zz_aload_n (npc := 5) 0 rfl rfl dX8_findRest_4 rfl ?_
  refine zz_getR (npc := 8) (i := 2) (C0 := RX8) (T := TX8) (N := 29) (by decide) (by rfl) rfl (by decide) iX8_findRest_8 (List.mem_of_getElem? (i := 2) rfl) rfl dX8_findRest_5 rfl ?_
  refine zz_callSv (npc := 11) (n := 2) (As := [.ref (eA E 58), .ref (eA E 60)]) gX8_findRest_X8_copyRow rfl rfl rfl (by decide +kernel) ⟨Nat.le_of_ble_eq_true rfl, Nat.le_of_ble_eq_true rfl⟩ rfl rfl (Nat.le_of_ble_eq_true rfl) (mtX8_copyRow E l 58 60 ⟨(by decide), (by rfl)⟩ ⟨(by decide), (by rfl)⟩  M) dX8_findRest_8 rfl (fun _ M1 _ => ?_)
  refine zz_aload_n (npc := 12) 0 rfl rfl dX8_findRest_11 rfl ?_
  refine zz_iconst (npc := 13) 0 (by decide) dX8_findRest_12 rfl ?_
  refine zz_putI (npc := 16) (i := 5) (C0 := RX8) (T := TX8) (N := 29) (by decide) (by rfl) rfl (by decide) iX8_findRest_8 (List.mem_of_getElem? (i := 3) rfl) tyX8_ok nmX8 rfl rfl rfl dX8_findRest_13 rfl (fun M2 => ?_)
  refine zz_aload_n (npc := 17) 0 rfl rfl dX8_findRest_16 rfl ?_
  refine zz_iconst (npc := 18) 0 (by decide) dX8_findRest_17 rfl ?_
  refine zz_putI (npc := 21) (i := 6) (C0 := RX8) (T := TX8) (N := 29) (by decide) (by rfl) rfl (by decide) iX8_findRest_8 (List.mem_of_getElem? (i := 4) rfl) tyX8_ok nmX8 rfl rfl rfl dX8_findRest_18 rfl (fun M3 => ?_)
  exact zX8_findRest_L21 E l  fu x1 M3

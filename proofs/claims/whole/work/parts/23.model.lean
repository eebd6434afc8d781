abbrev rmX8_isWord : Room := { frames := 4, cells := 0, slots := 0, locals := 85 }
theorem iX8_isWord_8 : ∀ w ∈ u_ws RX8 TX8 29, w ∈ wsX8_isWord := fun w h => List.mem_cons_of_mem _ (List.mem_append_right _ h)
noncomputable def fX8_isWord_L68 (d1 : Nat) (k32 : Int32 → Int32 → Mem → Option (Int32 × Mem)) (y3 : Int32) (w0 : Int32) (M : Mem) : Option (Int32 × Mem) := (bv (y3 + 1) fun v7 => (k32 w0 v7 M))
set_option maxHeartbeats 4000000 in
set_option maxRecDepth 100000 in
theorem zX8_isWord_L68 (E : EV) (l : Launch) (d1 : Nat) (hd1 : d1 < NS) (k32 : Int32 → Int32 → Mem → Option (Int32 × Mem)) (hk32 : ∀ (y2_ : Int32) (y3_ : Int32) (M_ : Mem), ZZ E l RX8 cX8_isWord 4 (some .boolean) wsX8_isWord rmX8_isWord vI (k32 y2_ y3_ M_) M_ [(0, .ref (eA E 57)), (1, .ref (eK E d1)), (2, .int y2_), (3, .int y3_)] 32 []) : ∀ (y3 : Int32) (w0 : Int32) (M : Mem), ZZ E l RX8 cX8_isWord 4 (some .boolean) wsX8_isWord rmX8_isWord vI (fX8_isWord_L68 d1 k32 y3 w0 M) M [(0, .ref (eA E 57)), (1, .ref (eK E d1)), (3, .int y3)] 68 [.int w0] := by
  intro y3 w0 M
  unfold fX8_isWord_L68
  refine zz_istore_n (npc := 69) (lv1 := [(2, .int w0), (0, .ref (eA E 57)), (1, .ref (eK E d1)), (3, .int y3)]) rfl dX8_isWord_68 rfl (by decide) rfl ?_
  refine zz_iincB (npc := 72) (y3 + 1) (lv1 := fun v7 => [(3, .int v7), (2, .int w0), (0, .ref (eA E 57)), (1, .ref (eK E d1))]) dX8_isWord_69 rfl 3 rfl rfl (by decide) (fun _ => rfl) (fun v7 => ?_)
  refine zz_goto (npc := 0) (tgt := 32) dX8_isWord_72 (by decide) ?_
  refine zz_sub (npc := 0) (lv1 := [(0, .ref (eA E 57)), (1, .ref (eK E d1)), (2, .int w0), (3, .int v7)]) [2, 3, 1, 0] rfl ?_
  exact hk32 w0 v7 M
noncomputable def fX8_isWord_L32 (d1 : Nat)  : Nat → Int32 → Int32 → Mem → Option (Int32 × Mem)
  | 0, _, _, _ => none
  | n + 1, y2, y3, M => (bd (fJ0_length_8abf5 d1 M) fun r4 M3 => (if r4 ≤ y3 then (ck (isb y2) (some (y2, M3))) else (if y2 = 0 then (ck (isb y2) (some (y2, M3))) else (ck (inb ((M3 57 16) + y3) 120) (bd (fJ0_charAt_5068e d1 y3 M3) fun r6 M5 => (if (M3 66 (ix ((M3 57 16) + y3))) = r6 then (fX8_isWord_L68 d1 (fX8_isWord_L32 d1 n) y3 1 M5) else (fX8_isWord_L68 d1 (fX8_isWord_L32 d1 n) y3 0 M5)))))))
set_option maxHeartbeats 4000000 in
set_option maxRecDepth 100000 in
theorem zX8_isWord_L32 (E : EV) (l : Launch) (d1 : Nat) (hd1 : d1 < NS)   : ∀ (n : Nat) (y2 : Int32) (y3 : Int32) (M : Mem), ZZ E l RX8 cX8_isWord 4 (some .boolean) wsX8_isWord rmX8_isWord vI (fX8_isWord_L32 d1 n y2 y3 M) M [(0, .ref (eA E 57)), (1, .ref (eK E d1)), (2, .int y2), (3, .int y3)] 32 [] := by
  intro n
  induction n with
  | zero => intros; exact zz_none
  | succ n ih =>
    intro y2 y3 M
    rw [fX8_isWord_L32]
    refine zz_iload_n (npc := 33) 3 rfl rfl dX8_isWord_32 rfl ?_
    refine zz_aload_n (npc := 34) 1 rfl rfl dX8_isWord_33 rfl ?_
    refine zz_callTi (npc := 37) (n := 0) (As := []) hd1 rfl gX8_isWord_J0_length_8abf5 rfl rfl rfl (by decide +kernel) ⟨Nat.le_of_ble_eq_true rfl, Nat.le_of_ble_eq_true rfl⟩ rfl rfl (Nat.le_of_ble_eq_true rfl) (mtJ0_length_8abf5 E l d1 hd1  M) dX8_isWord_34 rfl (fun r4 M3 _ => ?_)
    refine zz_icmp_ge (tgt := 75) (npc := 40) dX8_isWord_37 (by decide) rfl ?_ ?_
    · refine zz_iload_n (npc := 76) 2 rfl rfl dX8_isWord_75 rfl ?_
      exact zz_zret dX8_isWord_76
    · refine zz_iload_n (npc := 41) 2 rfl rfl dX8_isWord_40 rfl ?_
      refine zz_if_eq (tgt := 75) (npc := 44) dX8_isWord_41 (by decide) rfl ?_ ?_
      · refine zz_iload_n (npc := 76) 2 rfl rfl dX8_isWord_75 rfl ?_
        exact zz_zret dX8_isWord_76
      · refine zz_aload_n (npc := 45) 0 rfl rfl dX8_isWord_44 rfl ?_
        refine zz_getR (npc := 48) (i := 14) (C0 := RX8) (T := TX8) (N := 29) (by decide) (by rfl) rfl (by decide) iX8_isWord_8 (List.mem_of_getElem? (i := 4) rfl) rfl dX8_isWord_45 rfl ?_
        refine zz_aload_n (npc := 49) 0 rfl rfl dX8_isWord_48 rfl ?_
        refine zz_getI (npc := 52) (i := 16) (C0 := RX8) (T := TX8) (N := 29) (by decide) (by rfl) rfl (by decide) iX8_isWord_8 (List.mem_of_getElem? (i := 3) rfl) rfl dX8_isWord_49 rfl ?_
        refine zz_iload_n (npc := 53) 3 rfl rfl dX8_isWord_52 rfl ?_
        refine zz_iadd (npc := 54) dX8_isWord_53 rfl ?_
        refine zz_iald (npc := 55) (by decide) (by rfl) dX8_isWord_54 rfl ?_
        refine zz_aload_n (npc := 56) 1 rfl rfl dX8_isWord_55 rfl ?_
        refine zz_iload_n (npc := 57) 3 rfl rfl dX8_isWord_56 rfl ?_
        refine zz_callTi (npc := 60) (n := 1) (As := [.int y3]) hd1 rfl gX8_isWord_J0_charAt_5068e rfl rfl rfl (by decide +kernel) ⟨Nat.le_of_ble_eq_true rfl, Nat.le_of_ble_eq_true rfl⟩ rfl rfl (Nat.le_of_ble_eq_true rfl) (mtJ0_charAt_5068e E l d1 hd1 y3 M3) dX8_isWord_57 rfl (fun r6 M5 _ => ?_)
        refine zz_icmp_ne (tgt := 67) (npc := 63) dX8_isWord_60 (by decide) rfl ?_ ?_
        · refine zz_iconst (npc := 68) 0 (by decide) dX8_isWord_67 rfl ?_
          refine zz_sub (npc := 0) (lv1 := [(0, .ref (eA E 57)), (1, .ref (eK E d1)), (3, .int y3)]) [0, 1, 3] rfl ?_
          exact zX8_isWord_L68 E l d1 hd1 (fX8_isWord_L32 d1 n) ih y3 0 M5
        · refine zz_iconst (npc := 64) 1 (by decide) dX8_isWord_63 rfl ?_
          refine zz_goto (npc := 0) (tgt := 68) dX8_isWord_64 (by decide) ?_
          refine zz_sub (npc := 0) (lv1 := [(0, .ref (eA E 57)), (1, .ref (eK E d1)), (3, .int y3)]) [0, 1, 3] rfl ?_
          exact zX8_isWord_L68 E l d1 hd1 (fX8_isWord_L32 d1 n) ih y3 1 M5
noncomputable def fX8_isWord_L29 (d1 : Nat)  (w0 : Int32) (M : Mem) : Option (Int32 × Mem) := (fX8_isWord_L32 d1 fu w0 0 M)
set_option maxHeartbeats 4000000 in
set_option maxRecDepth 100000 in
theorem zX8_isWord_L29 (E : EV) (l : Launch) (d1 : Nat) (hd1 : d1 < NS)   : ∀ (w0 : Int32) (M : Mem), ZZ E l RX8 cX8_isWord 4 (some .boolean) wsX8_isWord rmX8_isWord vI (fX8_isWord_L29 d1 w0 M) M [(0, .ref (eA E 57)), (1, .ref (eK E d1))] 29 [.int w0] := by
  intro w0 M
  unfold fX8_isWord_L29
  refine zz_istore_n (npc := 30) (lv1 := [(2, .int w0), (0, .ref (eA E 57)), (1, .ref (eK E d1))]) rfl dX8_isWord_29 rfl (by decide) rfl ?_
  refine zz_iconst (npc := 31) 0 (by decide) dX8_isWord_30 rfl ?_
  refine zz_istore_n (npc := 32) (lv1 := [(3, .int 0), (2, .int w0), (0, .ref (eA E 57)), (1, .ref (eK E d1))]) rfl dX8_isWord_31 rfl (by decide) rfl ?_
  refine zz_sub (npc := 0) (lv1 := [(0, .ref (eA E 57)), (1, .ref (eK E d1)), (2, .int w0), (3, .int 0)]) [2, 3, 1, 0] rfl ?_
  exact zX8_isWord_L32 E l d1 hd1 fu w0 0 M
noncomputable def fX8_isWord_L28 (d1 : Nat)   (M : Mem) : Option (Int32 × Mem) := (fX8_isWord_L29 d1 0 M)
set_option maxHeartbeats 4000000 in
set_option maxRecDepth 100000 in
theorem zX8_isWord_L28 (E : EV) (l : Launch) (d1 : Nat) (hd1 : d1 < NS)   : ∀  (M : Mem), ZZ E l RX8 cX8_isWord 4 (some .boolean) wsX8_isWord rmX8_isWord vI (fX8_isWord_L28 d1 M) M [(0, .ref (eA E 57)), (1, .ref (eK E d1))] 28 [] := by
  intro M
  unfold fX8_isWord_L28
  refine zz_iconst (npc := 29) 0 (by decide) dX8_isWord_28 rfl ?_
  exact zX8_isWord_L29 E l d1 hd1 0 M
noncomputable def fX8_isWord (d1 : Nat)  (M : Mem) : Option (Int32 × Mem) := (if (M 57 18) = 1 then (bd (fJ0_length_8abf5 d1 M) fun r2 M1 => (if ((M 57 17) - (M 57 16)) = r2 then (fX8_isWord_L29 d1 1 M1) else (fX8_isWord_L28 d1 M1))) else (fX8_isWord_L28 d1 M))
set_option maxHeartbeats 4000000 in
set_option maxRecDepth 100000 in
theorem mtX8_isWord (E : EV) (l : Launch) (d1 : Nat) (hd1 : d1 < NS)  (M : Mem) : CT E l yX8_isWord wsX8_isWord rmX8_isWord vI [.ref (eA E 57), .ref (eK E d1)] (fX8_isWord d1 M) M := by
  refine ct_of (cc := cX8_isWord) (nL := 4) (ret := (some .boolean)) (by decide +kernel) rfl (Nat.le_of_ble_eq_true rfl) ?_
  show ZZ E l RX8 cX8_isWord 4 (some .boolean) wsX8_isWord rmX8_isWord vI (fX8_isWord d1 M) M [(0, .ref (eA E 57)), (1, .ref (eK E d1))] 0 []
  unfold fX8_isWord
  refine zz_aload_n (npc := 1) 0 rfl rfl dX8_isWord_0 rfl ?_
  refine zz_getI (npc := 4) (i := 18) (C0 := RX8) (T := TX8) (N := 29) (by decide) (by rfl) rfl (by decide) iX8_isWord_8 (List.mem_of_getElem? (i := 1) rfl) rfl dX8_isWord_1 rfl ?_
  refine zz_iconst (npc := 5) 1 (by decide) dX8_isWord_4 rfl ?_
  refine zz_icmp_ne (tgt := 28) (npc := 8) dX8_isWord_5 (by decide) rfl ?_ ?_
  · exact zX8_isWord_L28 E l d1 hd1 M
  · refine zz_aload_n (npc := 9) 0 rfl rfl dX8_isWord_8 rfl ?_
    refine zz_getI (npc := 12) (i := 17) (C0 := RX8) (T := TX8) (N := 29) (by decide) (by rfl) rfl (by decide) iX8_isWord_8 (List.mem_of_getElem? (i := 2) rfl) rfl dX8_isWord_9 rfl ?_
    refine zz_aload_n (npc := 13) 0 rfl rfl dX8_isWord_12 rfl ?_
    refine zz_getI (npc := 16) (i := 16) (C0 := RX8) (T := TX8) (N := 29) (by decide) (by rfl) rfl (by decide) iX8_isWord_8 (List.mem_of_getElem? (i := 3) rfl) rfl dX8_isWord_13 rfl ?_
    refine zz_isub (npc := 17) dX8_isWord_16 rfl ?_
    refine zz_aload_n (npc := 18) 1 rfl rfl dX8_isWord_17 rfl ?_
    refine zz_callTi (npc := 21) (n := 0) (As := []) hd1 rfl gX8_isWord_J0_length_8abf5 rfl rfl rfl (by decide +kernel) ⟨Nat.le_of_ble_eq_true rfl, Nat.le_of_ble_eq_true rfl⟩ rfl rfl (Nat.le_of_ble_eq_true rfl) (mtJ0_length_8abf5 E l d1 hd1  M) dX8_isWord_18 rfl (fun r2 M1 _ => ?_)
    refine zz_icmp_ne (tgt := 28) (npc := 24) dX8_isWord_21 (by decide) rfl ?_ ?_
    · exact zX8_isWord_L28 E l d1 hd1 M1
    · refine zz_iconst (npc := 25) 1 (by decide) dX8_isWord_24 rfl ?_
      refine zz_goto (npc := 0) (tgt := 29) dX8_isWord_25 (by decide) ?_
      exact zX8_isWord_L29 E l d1 hd1 1 M1
abbrev rmX8_must : Room := { frames := 2, cells := 0, slots := 0, locals := 45 }
theorem iX8_must_8 : ∀ w ∈ u_ws RX8 TX8 29, w ∈ wsX8_must := fun w h => List.mem_cons_of_mem _ (List.mem_append_right _ h)
noncomputable def fX8_must_L17   (w0 : Int32) (M : Mem) : Option (Unit × Mem) := (ck (isb w0) (wm (wr M 57 20 w0) fun M1 => (if (M1 57 20) = 0 then (bd (fX8_next M1) fun _ M2 => (some ((), M2))) else (some ((), M1)))))
set_option maxHeartbeats 4000000 in
set_option maxRecDepth 100000 in
theorem zX8_must_L17 (E : EV) (l : Launch)     : ∀ (w0 : Int32) (M : Mem), ZZ E l RX8 cX8_must 2 none wsX8_must rmX8_must vV (fX8_must_L17 w0 M) M [(0, .ref (eA E 57))] 17 [.int w0, .ref (eA E 57)] := by
  intro w0 M
  unfold fX8_must_L17
  refine zz_putZ (npc := 20) (i := 20) (C0 := RX8) (T := TX8) (N := 29) (by decide) (by rfl) rfl (by decide) iX8_must_8 (List.mem_of_getElem? (i := 1) rfl) tyX8_ok nmX8 rfl rfl rfl dX8_must_17 rfl (fun M1 => ?_)
  refine zz_aload_n (npc := 21) 0 rfl rfl dX8_must_20 rfl ?_
  refine zz_getI (npc := 24) (i := 20) (C0 := RX8) (T := TX8) (N := 29) (by decide) (by rfl) rfl (by decide) iX8_must_8 (List.mem_of_getElem? (i := 1) rfl) rfl dX8_must_21 rfl ?_
  refine zz_if_ne (tgt := 31) (npc := 27) dX8_must_24 (by decide) rfl ?_ ?_
  · exact zz_vret dX8_must_31
  · refine zz_aload_n (npc := 28) 0 rfl rfl dX8_must_27 rfl ?_
    refine zz_callVv (npc := 31) (n := 0) (As := []) (by decide) (by rfl) rfl gX8_must_X8_next rfl rfl rfl (by decide +kernel) ⟨Nat.le_of_ble_eq_true rfl, Nat.le_of_ble_eq_true rfl⟩ rfl rfl (Nat.le_of_ble_eq_true rfl) (mtX8_next E l   M1) dX8_must_28 rfl (fun _ M2 _ => ?_)
    exact zz_vret dX8_must_31
noncomputable def fX8_must_L12    (M : Mem) : Option (Unit × Mem) := (fX8_must_L17  1 M)
set_option maxHeartbeats 4000000 in
set_option maxRecDepth 100000 in
theorem zX8_must_L12 (E : EV) (l : Launch)     : ∀  (M : Mem), ZZ E l RX8 cX8_must 2 none wsX8_must rmX8_must vV (fX8_must_L12 M) M [(0, .ref (eA E 57))] 12 [.ref (eA E 57)] := by
  intro M
  unfold fX8_must_L12
  refine zz_iconst (npc := 13) 1 (by decide) dX8_must_12 rfl ?_
  refine zz_goto (npc := 0) (tgt := 17) dX8_must_13 (by decide) ?_
  exact zX8_must_L17 E l  1 M
noncomputable def fX8_must  (x1 : Int32) (M : Mem) : Option (Unit × Mem) := (if (M 57 20) = 0 then (if x1 = 0 then (fX8_must_L12  M) else (fX8_must_L17  0 M)) else (fX8_must_L12  M))
set_option maxHeartbeats 4000000 in
set_option maxRecDepth 100000 in
theorem mtX8_must (E : EV) (l : Launch)   (x1 : Int32) (M : Mem) : CT E l yX8_must wsX8_must rmX8_must vV [.ref (eA E 57), .int x1] (fX8_must x1 M) M := by
  refine ct_of (cc := cX8_must) (nL := 2) (ret := none) (by decide +kernel) rfl (Nat.le_of_ble_eq_true rfl) ?_
  show ZZ E l RX8 cX8_must 2 none wsX8_must rmX8_must vV (fX8_must x1 M) M [(0, .ref (eA E 57)), (1, .int x1)] 0 []
  unfold fX8_must
  refine zz_aload_n (npc := 1) 0 rfl rfl dX8_must_0 rfl ?_
  refine zz_aload_n (npc := 2) 0 rfl rfl dX8_must_1 rfl ?_
  refine zz_getI (npc := 5) (i := 20) (C0 := RX8) (T := TX8) (N := 29) (by decide) (by rfl) rfl (by decide) iX8_must_8 (List.mem_of_getElem? (i := 1) rfl) rfl dX8_must_2 rfl ?_
  refine zz_if_ne (tgt := 12) (npc := 8) dX8_must_5 (by decide) rfl ?_ ?_
  · refine zz_sub (npc := 0) (lv1 := [(0, .ref (eA E 57))]) [0] rfl ?_
    exact zX8_must_L12 E l  M
  · refine zz_iload_n (npc := 9) 1 rfl rfl dX8_must_8 rfl ?_
    refine zz_if_ne (tgt := 16) (npc := 12) dX8_must_9 (by decide) rfl ?_ ?_
    · refine zz_iconst (npc := 17) 0 (by decide) dX8_must_16 rfl ?_
      refine zz_sub (npc := 0) (lv1 := [(0, .ref (eA E 57))]) [0] rfl ?_
      exact zX8_must_L17 E l  0 M
    · refine zz_sub (npc := 0) (lv1 := [(0, .ref (eA E 57))]) [0] rfl ?_
      exact zX8_must_L12 E l  M
abbrev rmX8_number : Room := { frames := 3, cells := 0, slots := 0, locals := 66 }
theorem iX8_number_8 : ∀ w ∈ u_ws RX8 TX8 29, w ∈ wsX8_number := fun w h => List.mem_cons_of_mem _ (List.mem_append_right _ h)
noncomputable def fX8_number_L28   (y3 : Int32) (w0 : Int32) (M : Mem) : Option (Int32 × Mem) := (bd (fX8_must w0 M) fun _ M4 => (some (y3, M4)))
set_option maxHeartbeats 4000000 in
set_option maxRecDepth 100000 in
theorem zX8_number_L28 (E : EV) (l : Launch)     : ∀ (y3 : Int32) (w0 : Int32) (M : Mem), ZZ E l RX8 cX8_number 4 (some .int) wsX8_number rmX8_number vI (fX8_number_L28 y3 w0 M) M [(3, .int y3)] 28 [.int w0, .ref (eA E 57)] := by
  intro y3 w0 M
  unfold fX8_number_L28
  refine zz_callVv (npc := 31) (n := 1) (As := [.int w0]) (by decide) (by rfl) rfl gX8_number_X8_must rfl rfl rfl (by decide +kernel) ⟨Nat.le_of_ble_eq_true rfl, Nat.le_of_ble_eq_true rfl⟩ rfl rfl (Nat.le_of_ble_eq_true rfl) (mtX8_must E l  w0 M) dX8_number_28 rfl (fun _ M4 _ => ?_)
  refine zz_iload_n (npc := 32) 0 rfl rfl dX8_number_31 rfl ?_
  exact zz_iret dX8_number_32
noncomputable def fX8_number_L27   (y3 : Int32) (M : Mem) : Option (Int32 × Mem) := (fX8_number_L28  y3 0 M)
set_option maxHeartbeats 4000000 in
set_option maxRecDepth 100000 in
theorem zX8_number_L27 (E : EV) (l : Launch)     : ∀ (y3 : Int32) (M : Mem), ZZ E l RX8 cX8_number 4 (some .int) wsX8_number rmX8_number vI (fX8_number_L27 y3 M) M [(3, .int y3)] 27 [.ref (eA E 57)] := by
  intro y3 M
  unfold fX8_number_L27
  refine zz_iconst (npc := 28) 0 (by decide) dX8_number_27 rfl ?_
  exact zX8_number_L28 E l  y3 0 M
noncomputable def fX8_number  (x1 : Int32) (x2 : Int32) (M : Mem) : Option (Int32 × Mem) := (bv (M 57 19) fun v1 => (if (M 57 18) = 2 then (bd (fX8_within v1 x1 x2 M) fun r3 M2 => (if r3 = 0 then (fX8_number_L27  v1 M2) else (fX8_number_L28  v1 1 M2))) else (fX8_number_L27  v1 M)))
set_option maxHeartbeats 4000000 in
set_option maxRecDepth 100000 in
theorem mtX8_number (E : EV) (l : Launch)   (x1 : Int32) (x2 : Int32) (M : Mem) : CT E l yX8_number wsX8_number rmX8_number vI [.ref (eA E 57), .int x1, .int x2] (fX8_number x1 x2 M) M := by
  refine ct_of (cc := cX8_number) (nL := 4) (ret := (some .int)) (by decide +kernel) rfl (Nat.le_of_ble_eq_true rfl) ?_
  show ZZ E l RX8 cX8_number 4 (some .int) wsX8_number rmX8_number vI (fX8_number x1 x2 M) M [(0, .ref (eA E 57)), (1, .int x1), (2, .int x2)] 0 []
  unfold fX8_number
  refine zz_aload_n (npc := 1) 0 rfl rfl dX8_number_0 rfl ?_
  refine zz_getI (npc := 4) (i := 19) (C0 := RX8) (T := TX8) (N := 29) (by decide) (by rfl) rfl (by decide) iX8_number_8 (List.mem_of_getElem? (i := 1) rfl) rfl dX8_number_1 rfl ?_
  refine zz_istore_nB (npc := 5) (lv1 := fun v1 => [(3, .int v1), (0, .ref (eA E 57)), (1, .int x1), (2, .int x2)]) rfl dX8_number_4 rfl (by decide) (fun _ => rfl) (fun v1 => ?_)
  refine zz_aload_n (npc := 6) 1 rfl rfl dX8_number_5 rfl ?_
  refine zz_aload_n (npc := 7) 1 rfl rfl dX8_number_6 rfl ?_
  refine zz_getI (npc := 10) (i := 18) (C0 := RX8) (T := TX8) (N := 29) (by decide) (by rfl) rfl (by decide) iX8_number_8 (List.mem_of_getElem? (i := 2) rfl) rfl dX8_number_7 rfl ?_
  refine zz_iconst (npc := 11) 2 (by decide) dX8_number_10 rfl ?_
  refine zz_icmp_ne (tgt := 27) (npc := 14) dX8_number_11 (by decide) rfl ?_ ?_
  · refine zz_sub (npc := 0) (lv1 := [(3, .int v1)]) [0] rfl ?_
    exact zX8_number_L27 E l  v1 M
  · refine zz_iload_n (npc := 15) 0 rfl rfl dX8_number_14 rfl ?_
    refine zz_iload_n (npc := 16) 2 rfl rfl dX8_number_15 rfl ?_
    refine zz_iload_n (npc := 17) 3 rfl rfl dX8_number_16 rfl ?_
    refine zz_callSi (npc := 20) (n := 3) (As := [.int v1, .int x1, .int x2]) gX8_number_X8_within rfl rfl rfl (by decide +kernel) ⟨Nat.le_of_ble_eq_true rfl, Nat.le_of_ble_eq_true rfl⟩ rfl rfl (Nat.le_of_ble_eq_true rfl) (mtX8_within E l  v1 x1 x2 M) dX8_number_17 rfl (fun r3 M2 _ => ?_)
    refine zz_if_eq (tgt := 27) (npc := 23) dX8_number_20 (by decide) rfl ?_ ?_
    · refine zz_sub (npc := 0) (lv1 := [(3, .int v1)]) [0] rfl ?_
      exact zX8_number_L27 E l  v1 M2
    · refine zz_iconst (npc := 24) 1 (by decide) dX8_number_23 rfl ?_
      refine zz_goto (npc := 0) (tgt := 28) dX8_number_24 (by decide) ?_
      refine zz_sub (npc := 0) (lv1 := [(3, .int v1)]) [0] rfl ?_
      exact zX8_number_L28 E l  v1 1 M2
abbrev rmX8_item : Room := { frames := 0, cells := 0, slots := 0, locals := 0 }
theorem iX8_item_8 : ∀ w ∈ u_ws RX8 TX8 29, w ∈ wsX8_item := fun w h => List.mem_cons_of_mem _ (List.mem_append_right _ h)
noncomputable def fX8_item  (x1 : Int32) (x2 : Int32) (x3 : Int32) (x4 : Int32) (M : Mem) : Option (Unit × Mem) := (bv (4 * (M 57 23)) fun v1 => (ck (inb v1 480) (wm (wr M 68 (ix v1) x1) fun M2 => (ck (inb (v1 + 1) 480) (wm (wr M2 68 (ix (v1 + 1)) x2) fun M3 => (ck (inb (v1 + 2) 480) (wm (wr M3 68 (ix (v1 + 2)) x3) fun M4 => (ck (inb (v1 + 3) 480) (wm (wr M4 68 (ix (v1 + 3)) x4) fun M5 => (wm (wr M5 57 23 ((M5 57 23) + 1)) fun M6 => (some ((), M6))))))))))))
set_option maxHeartbeats 4000000 in
set_option maxRecDepth 100000 in
theorem mtX8_item (E : EV) (l : Launch)   (x1 : Int32) (x2 : Int32) (x3 : Int32) (x4 : Int32) (M : Mem) : CT E l yX8_item wsX8_item rmX8_item vV [.ref (eA E 57), .int x1, .int x2, .int x3, .int x4] (fX8_item x1 x2 x3 x4 M) M := by
  refine ct_of (cc := cX8_item) (nL := 6) (ret := none) (by decide +kernel) rfl (Nat.le_of_ble_eq_true rfl) ?_
  show ZZ E l RX8 cX8_item 6 none wsX8_item rmX8_item vV (fX8_item x1 x2 x3 x4 M) M [(0, .ref (eA E 57)), (1, .int x1), (2, .int x2), (3, .int x3), (4, .int x4)] 0 []
  unfold fX8_item
  refine zz_iconst (npc := 1) 4 (by decide) dX8_item_0 rfl ?_
  refine zz_aload_n (npc := 2) 0 rfl rfl dX8_item_1 rfl ?_
  refine zz_getI (npc := 5) (i := 23) (C0 := RX8) (T := TX8) (N := 29) (by decide) (by rfl) rfl (by decide) iX8_item_8 (List.mem_of_getElem? (i := 1) rfl) rfl dX8_item_2 rfl ?_
  refine zz_imul (npc := 6) dX8_item_5 rfl ?_
  refine zz_istoreB (npc := 8) (lv1 := fun v1 => [(5, .int v1), (0, .ref (eA E 57)), (1, .int x1), (2, .int x2), (3, .int x3), (4, .int x4)]) dX8_item_6 rfl (by decide) (fun _ => rfl) (fun v1 => ?_)
  refine zz_aload_n (npc := 9) 1 rfl rfl dX8_item_8 rfl ?_
  refine zz_getR (npc := 12) (i := 22) (C0 := RX8) (T := TX8) (N := 29) (by decide) (by rfl) rfl (by decide) iX8_item_8 (List.mem_of_getElem? (i := 2) rfl) rfl dX8_item_9 rfl ?_
  refine zz_iload (npc := 14) 0 rfl dX8_item_12 rfl ?_
  refine zz_iload_n (npc := 15) 2 rfl rfl dX8_item_14 rfl ?_
  refine zz_iast (npc := 16) (by decide) (by rfl) dX8_item_15 rfl (fun M2 => ?_)
  refine zz_aload_n (npc := 17) 1 rfl rfl dX8_item_16 rfl ?_
  refine zz_getR (npc := 20) (i := 22) (C0 := RX8) (T := TX8) (N := 29) (by decide) (by rfl) rfl (by decide) iX8_item_8 (List.mem_of_getElem? (i := 2) rfl) rfl dX8_item_17 rfl ?_
  refine zz_iload (npc := 22) 0 rfl dX8_item_20 rfl ?_
  refine zz_iconst (npc := 23) 1 (by decide) dX8_item_22 rfl ?_
  refine zz_iadd (npc := 24) dX8_item_23 rfl ?_
  refine zz_iload_n (npc := 25) 3 rfl rfl dX8_item_24 rfl ?_
  refine zz_iast (npc := 26) (by decide) (by rfl) dX8_item_25 rfl (fun M3 => ?_)
  refine zz_aload_n (npc := 27) 1 rfl rfl dX8_item_26 rfl ?_
  refine zz_getR (npc := 30) (i := 22) (C0 := RX8) (T := TX8) (N := 29) (by decide) (by rfl) rfl (by decide) iX8_item_8 (List.mem_of_getElem? (i := 2) rfl) rfl dX8_item_27 rfl ?_
  refine zz_iload (npc := 32) 0 rfl dX8_item_30 rfl ?_
  refine zz_iconst (npc := 33) 2 (by decide) dX8_item_32 rfl ?_
  refine zz_iadd (npc := 34) dX8_item_33 rfl ?_
  refine zz_iload_n (npc := 35) 4 rfl rfl dX8_item_34 rfl ?_
  refine zz_iast (npc := 36) (by decide) (by rfl) dX8_item_35 rfl (fun M4 => ?_)
  refine zz_aload_n (npc := 37) 1 rfl rfl dX8_item_36 rfl ?_
  refine zz_getR (npc := 40) (i := 22) (C0 := RX8) (T := TX8) (N := 29) (by decide) (by rfl) rfl (by decide) iX8_item_8 (List.mem_of_getElem? (i := 2) rfl) rfl dX8_item_37 rfl ?_
  refine zz_iload (npc := 42) 0 rfl dX8_item_40 rfl ?_
  refine zz_iconst (npc := 43) 3 (by decide) dX8_item_42 rfl ?_
  refine zz_iadd (npc := 44) dX8_item_43 rfl ?_
  refine zz_iload (npc := 46) 5 rfl dX8_item_44 rfl ?_
  refine zz_iast (npc := 47) (by decide) (by rfl) dX8_item_46 rfl (fun M5 => ?_)
  refine zz_aload_n (npc := 48) 1 rfl rfl dX8_item_47 rfl ?_
  refine zz_dup (npc := 49) rfl dX8_item_48 rfl ?_
  refine zz_getI (npc := 52) (i := 23) (C0 := RX8) (T := TX8) (N := 29) (by decide) (by rfl) rfl (by decide) iX8_item_8 (List.mem_of_getElem? (i := 1) rfl) rfl dX8_item_49 rfl ?_
  refine zz_iconst (npc := 53) 1 (by decide) dX8_item_52 rfl ?_
  refine zz_iadd (npc := 54) dX8_item_53 rfl ?_
  refine zz_putI (npc := 57) (i := 23) (C0 := RX8) (T := TX8) (N := 29) (by decide) (by rfl) rfl (by decide) iX8_item_8 (List.mem_of_getElem? (i := 1) rfl) tyX8_ok nmX8 rfl rfl rfl dX8_item_54 rfl (fun M6 => ?_)
  exact zz_vret dX8_item_57
abbrev rmX8_kindTold : Room := { frames := 5, cells := 0, slots := 0, locals := 108 }
theorem iX8_kindTold_8 : ∀ w ∈ u_ws RX8 TX8 29, w ∈ wsX8_kindTold := fun w h => List.mem_cons_of_mem _ (List.mem_append_right _ h)
noncomputable def fX8_kindTold_L31  (k4 : Int32 → Int32 → Mem → Option (Int32 × Mem)) (y2 : Int32) (w0 : Int32) (M : Mem) : Option (Int32 × Mem) := (bv (y2 + 1) fun v3 => (k4 w0 v3 M))
set_option maxHeartbeats 4000000 in
set_option maxRecDepth 100000 in
theorem zX8_kindTold_L31 (E : EV) (l : Launch)   (k4 : Int32 → Int32 → Mem → Option (Int32 × Mem)) (hk4 : ∀ (y1_ : Int32) (y2_ : Int32) (M_ : Mem), ZZ E l RX8 cX8_kindTold 3 (some .int) wsX8_kindTold rmX8_kindTold vI (k4 y1_ y2_ M_) M_ [(0, .ref (eA E 57)), (1, .int y1_), (2, .int y2_)] 4 []) : ∀ (y2 : Int32) (w0 : Int32) (M : Mem), ZZ E l RX8 cX8_kindTold 3 (some .int) wsX8_kindTold rmX8_kindTold vI (fX8_kindTold_L31 k4 y2 w0 M) M [(0, .ref (eA E 57)), (2, .int y2)] 31 [.int w0] := by
  intro y2 w0 M
  unfold fX8_kindTold_L31
  refine zz_istore_n (npc := 32) (lv1 := [(1, .int w0), (0, .ref (eA E 57)), (2, .int y2)]) rfl dX8_kindTold_31 rfl (by decide) rfl ?_
  refine zz_iincB (npc := 35) (y2 + 1) (lv1 := fun v3 => [(2, .int v3), (1, .int w0), (0, .ref (eA E 57))]) dX8_kindTold_32 rfl 2 rfl rfl (by decide) (fun _ => rfl) (fun v3 => ?_)
  refine zz_goto (npc := 0) (tgt := 4) dX8_kindTold_35 (by decide) ?_
  refine zz_sub (npc := 0) (lv1 := [(0, .ref (eA E 57)), (1, .int w0), (2, .int v3)]) [2, 1, 0] rfl ?_
  exact hk4 w0 v3 M
noncomputable def fX8_kindTold_L4   : Nat → Int32 → Int32 → Mem → Option (Int32 × Mem)
  | 0, _, _, _ => none
  | n + 1, y1, y2, M => (if 7 ≤ y2 then (some (y1, M)) else (ck (inb y2 7) (bd (fX8_isWord (kst (ix y2)) M) fun r2 M1 => (if r2 = 0 then (fX8_kindTold_L31 (fX8_kindTold_L4  n) y2 y1 M1) else (fX8_kindTold_L31 (fX8_kindTold_L4  n) y2 y2 M1)))))
set_option maxHeartbeats 4000000 in
set_option maxRecDepth 100000 in
theorem zX8_kindTold_L4 (E : EV) (l : Launch)     : ∀ (n : Nat) (y1 : Int32) (y2 : Int32) (M : Mem), ZZ E l RX8 cX8_kindTold 3 (some .int) wsX8_kindTold rmX8_kindTold vI (fX8_kindTold_L4 n y1 y2 M) M [(0, .ref (eA E 57)), (1, .int y1), (2, .int y2)] 4 [] := by
  intro n
  induction n with
  | zero => intros; exact zz_none
  | succ n ih =>
    intro y1 y2 M
    rw [fX8_kindTold_L4]
    refine zz_iload_n (npc := 5) 2 rfl rfl dX8_kindTold_4 rfl ?_
    refine zz_aload_n (npc := 6) 0 rfl rfl dX8_kindTold_5 rfl ?_
    refine zz_getR (npc := 9) (i := 21) (C0 := RX8) (T := TX8) (N := 29) (by decide) (by rfl) rfl (by decide) iX8_kindTold_8 (List.mem_of_getElem? (i := 1) rfl) rfl dX8_kindTold_6 rfl ?_
    refine zz_alenT (npc := 10) 7 (by decide) (by rfl) (by decide) dX8_kindTold_9 rfl ?_
    refine zz_icmp_ge (tgt := 38) (npc := 13) dX8_kindTold_10 (by decide) rfl ?_ ?_
    · refine zz_iload_n (npc := 39) 1 rfl rfl dX8_kindTold_38 rfl ?_
      exact zz_iret dX8_kindTold_39
    · refine zz_aload_n (npc := 14) 0 rfl rfl dX8_kindTold_13 rfl ?_
      refine zz_aload_n (npc := 15) 0 rfl rfl dX8_kindTold_14 rfl ?_
      refine zz_getR (npc := 18) (i := 21) (C0 := RX8) (T := TX8) (N := 29) (by decide) (by rfl) rfl (by decide) iX8_kindTold_8 (List.mem_of_getElem? (i := 1) rfl) rfl dX8_kindTold_15 rfl ?_
      refine zz_iload_n (npc := 19) 2 rfl rfl dX8_kindTold_18 rfl ?_
      refine zz_aaldT (npc := 20) (by decide) (by rfl) dX8_kindTold_19 rfl (fun hs19 => ?_)
      refine zz_callVi (npc := 23) (n := 1) (As := [.ref (eK E (kst (ix y2)))]) (by decide) (by rfl) rfl gX8_kindTold_X8_isWord rfl rfl rfl (by decide +kernel) ⟨Nat.le_of_ble_eq_true rfl, Nat.le_of_ble_eq_true rfl⟩ rfl rfl (Nat.le_of_ble_eq_true rfl) (mtX8_isWord E l (kst (ix y2)) (kst_ix hs19)  M) dX8_kindTold_20 rfl (fun r2 M1 _ => ?_)
      refine zz_if_eq (tgt := 30) (npc := 26) dX8_kindTold_23 (by decide) rfl ?_ ?_
      · refine zz_iload_n (npc := 31) 1 rfl rfl dX8_kindTold_30 rfl ?_
        refine zz_sub (npc := 0) (lv1 := [(0, .ref (eA E 57)), (2, .int y2)]) [0, 2] rfl ?_
        exact zX8_kindTold_L31 E l (fX8_kindTold_L4  n) ih y2 y1 M1
      · refine zz_iload_n (npc := 27) 2 rfl rfl dX8_kindTold_26 rfl ?_
        refine zz_goto (npc := 0) (tgt := 31) dX8_kindTold_27 (by decide) ?_
        refine zz_sub (npc := 0) (lv1 := [(0, .ref (eA E 57)), (2, .int y2)]) [0, 2] rfl ?_
        exact zX8_kindTold_L31 E l (fX8_kindTold_L4  n) ih y2 y2 M1
noncomputable def fX8_kindTold   (M : Mem) : Option (Int32 × Mem) := (fX8_kindTold_L4  fu (-1) 0 M)
set_option maxHeartbeats 4000000 in
set_option maxRecDepth 100000 in
theorem mtX8_kindTold (E : EV) (l : Launch)    (M : Mem) : CT E l yX8_kindTold wsX8_kindTold rmX8_kindTold vI [.ref (eA E 57)] (fX8_kindTold  M) M := by
  refine ct_of (cc := cX8_kindTold) (nL := 3) (ret := (some .int)) (by decide +kernel) rfl (Nat.le_of_ble_eq_true rfl) ?_
  show ZZ E l RX8 cX8_kindTold 3 (some .int) wsX8_kindTold rmX8_kindTold vI (fX8_kindTold  M) M [(0, .ref (eA E 57))] 0 []
  unfold fX8_kindTold
  refine zz_iconst (npc := 1) (-1) (by decide) dX8_kindTold_0 rfl ?_
  refine zz_istore_n (npc := 2) (lv1 := [(1, .int (-1)), (0, .ref (eA E 57))]) rfl dX8_kindTold_1 rfl (by decide) rfl ?_
  refine zz_iconst (npc := 3) 0 (by decide) dX8_kindTold_2 rfl ?_
  refine zz_istore_n (npc := 4) (lv1 := [(2, .int 0), (1, .int (-1)), (0, .ref (eA E 57))]) rfl dX8_kindTold_3 rfl (by decide) rfl ?_
  refine zz_sub (npc := 0) (lv1 := [(0, .ref (eA E 57)), (1, .int (-1)), (2, .int 0)]) [2, 1, 0] rfl ?_
  exact zX8_kindTold_L4 E l  fu (-1) 0 M
abbrev rmX8_isNext : Room := { frames := 5, cells := 0, slots := 0, locals := 108 }
theorem iX8_isNext_8 : ∀ w ∈ u_ws RX8 TX8 29, w ∈ wsX8_isNext := fun w h => List.mem_cons_of_mem _ (List.mem_append_right _ h)
noncomputable def fX8_isNext_L20 (d1 : Nat)  (w0 : Int32) (M : Mem) : Option (Int32 × Mem) := (if w0 = 0 then (ck (isb w0) (some (w0, M))) else (bd (fX8_must 1 M) fun _ M3 => (ck (isb w0) (some (w0, M3)))))
set_option maxHeartbeats 4000000 in
set_option maxRecDepth 100000 in
theorem zX8_isNext_L20 (E : EV) (l : Launch) (d1 : Nat) (hd1 : d1 < NS)   : ∀ (w0 : Int32) (M : Mem), ZZ E l RX8 cX8_isNext 3 (some .boolean) wsX8_isNext rmX8_isNext vI (fX8_isNext_L20 d1 w0 M) M [(0, .ref (eA E 57))] 20 [.int w0] := by
  intro w0 M
  unfold fX8_isNext_L20
  refine zz_istore_n (npc := 21) (lv1 := [(2, .int w0), (0, .ref (eA E 57))]) rfl dX8_isNext_20 rfl (by decide) rfl ?_
  refine zz_iload_n (npc := 22) 0 rfl rfl dX8_isNext_21 rfl ?_
  refine zz_if_eq (tgt := 30) (npc := 25) dX8_isNext_22 (by decide) rfl ?_ ?_
  · refine zz_iload_n (npc := 31) 0 rfl rfl dX8_isNext_30 rfl ?_
    exact zz_zret dX8_isNext_31
  · refine zz_aload_n (npc := 26) 1 rfl rfl dX8_isNext_25 rfl ?_
    refine zz_iconst (npc := 27) 1 (by decide) dX8_isNext_26 rfl ?_
    refine zz_callVv (npc := 30) (n := 1) (As := [.int 1]) (by decide) (by rfl) rfl gX8_isNext_X8_must rfl rfl rfl (by decide +kernel) ⟨Nat.le_of_ble_eq_true rfl, Nat.le_of_ble_eq_true rfl⟩ rfl rfl (Nat.le_of_ble_eq_true rfl) (mtX8_must E l  1 M) dX8_isNext_27 rfl (fun _ M3 _ => ?_)
    refine zz_iload_n (npc := 31) 0 rfl rfl dX8_isNext_30 rfl ?_
    exact zz_zret dX8_isNext_31
noncomputable def fX8_isNext_L19 (d1 : Nat)   (M : Mem) : Option (Int32 × Mem) := (fX8_isNext_L20 d1 0 M)
set_option maxHeartbeats 4000000 in
set_option maxRecDepth 100000 in
theorem zX8_isNext_L19 (E : EV) (l : Launch) (d1 : Nat) (hd1 : d1 < NS)   : ∀  (M : Mem), ZZ E l RX8 cX8_isNext 3 (some .boolean) wsX8_isNext rmX8_isNext vI (fX8_isNext_L19 d1 M) M [(0, .ref (eA E 57))] 19 [] := by
  intro M
  unfold fX8_isNext_L19
  refine zz_iconst (npc := 20) 0 (by decide) dX8_isNext_19 rfl ?_
  exact zX8_isNext_L20 E l d1 hd1 0 M
noncomputable def fX8_isNext (d1 : Nat)  (M : Mem) : Option (Int32 × Mem) := (if (M 57 20) = 0 then (bd (fX8_isWord d1 M) fun r2 M1 => (if r2 = 0 then (fX8_isNext_L19 d1 M1) else (fX8_isNext_L20 d1 1 M1))) else (fX8_isNext_L19 d1 M))
set_option maxHeartbeats 4000000 in
set_option maxRecDepth 100000 in
theorem mtX8_isNext (E : EV) (l : Launch) (d1 : Nat) (hd1 : d1 < NS)  (M : Mem) : CT E l yX8_isNext wsX8_isNext rmX8_isNext vI [.ref (eA E 57), .ref (eK E d1)] (fX8_isNext d1 M) M := by
  refine ct_of (cc := cX8_isNext) (nL := 3) (ret := (some .boolean)) (by decide +kernel) rfl (Nat.le_of_ble_eq_true rfl) ?_
  show ZZ E l RX8 cX8_isNext 3 (some .boolean) wsX8_isNext rmX8_isNext vI (fX8_isNext d1 M) M [(0, .ref (eA E 57)), (1, .ref (eK E d1))] 0 []
  unfold fX8_isNext
  refine zz_aload_n (npc := 1) 0 rfl rfl dX8_isNext_0 rfl ?_
  refine zz_getI (npc := 4) (i := 20) (C0 := RX8) (T := TX8) (N := 29) (by decide) (by rfl) rfl (by decide) iX8_isNext_8 (List.mem_of_getElem? (i := 1) rfl) rfl dX8_isNext_1 rfl ?_
  refine zz_if_ne (tgt := 19) (npc := 7) dX8_isNext_4 (by decide) rfl ?_ ?_
  · refine zz_sub (npc := 0) (lv1 := [(0, .ref (eA E 57))]) [0] rfl ?_
    exact zX8_isNext_L19 E l d1 hd1 M
  · refine zz_aload_n (npc := 8) 0 rfl rfl dX8_isNext_7 rfl ?_
    refine zz_aload_n (npc := 9) 1 rfl rfl dX8_isNext_8 rfl ?_
    refine zz_callVi (npc := 12) (n := 1) (As := [.ref (eK E d1)]) (by decide) (by rfl) rfl gX8_isNext_X8_isWord rfl rfl rfl (by decide +kernel) ⟨Nat.le_of_ble_eq_true rfl, Nat.le_of_ble_eq_true rfl⟩ rfl rfl (Nat.le_of_ble_eq_true rfl) (mtX8_isWord E l d1 hd1  M) dX8_isNext_9 rfl (fun r2 M1 _ => ?_)
    refine zz_if_eq (tgt := 19) (npc := 15) dX8_isNext_12 (by decide) rfl ?_ ?_
    · refine zz_sub (npc := 0) (lv1 := [(0, .ref (eA E 57))]) [0] rfl ?_
      exact zX8_isNext_L19 E l d1 hd1 M1
    · refine zz_iconst (npc := 16) 1 (by decide) dX8_isNext_15 rfl ?_
      refine zz_goto (npc := 0) (tgt := 20) dX8_isNext_16 (by decide) ?_
      refine zz_sub (npc := 0) (lv1 := [(0, .ref (eA E 57))]) [0] rfl ?_
      exact zX8_isNext_L20 E l d1 hd1 1 M1
abbrev rmX8_another : Room := { frames := 4, cells := 0, slots := 0, locals := 89 }
theorem iX8_another_8 : ∀ w ∈ u_ws RX8 TX8 29, w ∈ wsX8_another := fun w h => List.mem_cons_of_mem _ (List.mem_append_right _ h)
noncomputable def fX8_another  (x1 : Int32) (M : Mem) : Option (Int32 × Mem) := (bv (M 57 16) fun v1 => (bv (M 57 20) fun v2 => (bd (fX8_number 0 ((M 57 24) - 1) M) fun r4 M3 => (if v2 = 0 then (if (M3 57 20) = 0 then (if r4 = x1 then (ck (isb 1) (wm (wr M3 57 20 1) fun M5 => (wm (wr M5 57 16 v1) fun M6 => (some (r4, M6))))) else (some (r4, M3))) else (some (r4, M3))) else (some (r4, M3))))))
set_option maxHeartbeats 4000000 in
set_option maxRecDepth 100000 in
theorem mtX8_another (E : EV) (l : Launch)   (x1 : Int32) (M : Mem) : CT E l yX8_another wsX8_another rmX8_another vI [.ref (eA E 57), .int x1] (fX8_another x1 M) M := by
  refine ct_of (cc := cX8_another) (nL := 5) (ret := (some .int)) (by decide +kernel) rfl (Nat.le_of_ble_eq_true rfl) ?_
  show ZZ E l RX8 cX8_another 5 (some .int) wsX8_another rmX8_another vI (fX8_another x1 M) M [(0, .ref (eA E 57)), (1, .int x1)] 0 []
  unfold fX8_another
  refine zz_aload_n (npc := 1) 0 rfl rfl dX8_another_0 rfl ?_
  refine zz_getI (npc := 4) (i := 16) (C0 := RX8) (T := TX8) (N := 29) (by decide) (by rfl) rfl (by decide) iX8_another_8 (List.mem_of_getElem? (i := 1) rfl) rfl dX8_another_1 rfl ?_
  refine zz_istore_nB (npc := 5) (lv1 := fun v1 => [(2, .int v1), (0, .ref (eA E 57)), (1, .int x1)]) rfl dX8_another_4 rfl (by decide) (fun _ => rfl) (fun v1 => ?_)
  refine zz_aload_n (npc := 6) 1 rfl rfl dX8_another_5 rfl ?_
  refine zz_getI (npc := 9) (i := 20) (C0 := RX8) (T := TX8) (N := 29) (by decide) (by rfl) rfl (by decide) iX8_another_8 (List.mem_of_getElem? (i := 2) rfl) rfl dX8_another_6 rfl ?_
  refine zz_istore_nB (npc := 10) (lv1 := fun v2 => [(3, .int v2), (2, .int v1), (0, .ref (eA E 57)), (1, .int x1)]) rfl dX8_another_9 rfl (by decide) (fun _ => rfl) (fun v2 => ?_)
  refine zz_aload_n (npc := 11) 2 rfl rfl dX8_another_10 rfl ?_
  refine zz_iconst (npc := 12) 0 (by decide) dX8_another_11 rfl ?_
  refine zz_aload_n (npc := 13) 2 rfl rfl dX8_another_12 rfl ?_
  refine zz_getI (npc := 16) (i := 24) (C0 := RX8) (T := TX8) (N := 29) (by decide) (by rfl) rfl (by decide) iX8_another_8 (List.mem_of_getElem? (i := 3) rfl) rfl dX8_another_13 rfl ?_
  refine zz_iconst (npc := 17) 1 (by decide) dX8_another_16 rfl ?_
  refine zz_isub (npc := 18) dX8_another_17 rfl ?_
  refine zz_callVi (npc := 21) (n := 2) (As := [.int 0, .int ((M 57 24) - 1)]) (by decide) (by rfl) rfl gX8_another_X8_number rfl rfl rfl (by decide +kernel) ⟨Nat.le_of_ble_eq_true rfl, Nat.le_of_ble_eq_true rfl⟩ rfl rfl (Nat.le_of_ble_eq_true rfl) (mtX8_number E l  0 ((M 57 24) - 1) M) dX8_another_18 rfl (fun r4 M3 _ => ?_)
  refine zz_istore (npc := 23) (lv1 := [(4, .int r4), (3, .int v2), (2, .int v1), (0, .ref (eA E 57)), (1, .int x1)]) dX8_another_21 rfl (by decide) rfl ?_
  refine zz_iload_n (npc := 24) 1 rfl rfl dX8_another_23 rfl ?_
  refine zz_if_ne (tgt := 50) (npc := 27) dX8_another_24 (by decide) rfl ?_ ?_
  · refine zz_iload (npc := 52) 0 rfl dX8_another_50 rfl ?_
    exact zz_iret dX8_another_52
  · refine zz_aload_n (npc := 28) 3 rfl rfl dX8_another_27 rfl ?_
    refine zz_getI (npc := 31) (i := 20) (C0 := RX8) (T := TX8) (N := 29) (by decide) (by rfl) rfl (by decide) iX8_another_8 (List.mem_of_getElem? (i := 2) rfl) rfl dX8_another_28 rfl ?_
    refine zz_if_ne (tgt := 50) (npc := 34) dX8_another_31 (by decide) rfl ?_ ?_
    · refine zz_iload (npc := 52) 0 rfl dX8_another_50 rfl ?_
      exact zz_iret dX8_another_52
    · refine zz_iload (npc := 36) 0 rfl dX8_another_34 rfl ?_
      refine zz_iload_n (npc := 37) 4 rfl rfl dX8_another_36 rfl ?_
      refine zz_icmp_ne (tgt := 50) (npc := 40) dX8_another_37 (by decide) rfl ?_ ?_
      · refine zz_iload (npc := 52) 0 rfl dX8_another_50 rfl ?_
        exact zz_iret dX8_another_52
      · refine zz_aload_n (npc := 41) 3 rfl rfl dX8_another_40 rfl ?_
        refine zz_iconst (npc := 42) 1 (by decide) dX8_another_41 rfl ?_
        refine zz_putZ (npc := 45) (i := 20) (C0 := RX8) (T := TX8) (N := 29) (by decide) (by rfl) rfl (by decide) iX8_another_8 (List.mem_of_getElem? (i := 2) rfl) tyX8_ok nmX8 rfl rfl rfl dX8_another_42 rfl (fun M5 => ?_)
        refine zz_aload_n (npc := 46) 3 rfl rfl dX8_another_45 rfl ?_
        refine zz_iload_n (npc := 47) 2 rfl rfl dX8_another_46 rfl ?_
        refine zz_putI (npc := 50) (i := 16) (C0 := RX8) (T := TX8) (N := 29) (by decide) (by rfl) rfl (by decide) iX8_another_8 (List.mem_of_getElem? (i := 1) rfl) tyX8_ok nmX8 rfl rfl rfl dX8_another_47 rfl (fun M6 => ?_)
        refine zz_iload (npc := 52) 0 rfl dX8_another_50 rfl ?_
        exact zz_iret dX8_another_52
abbrev rmX8_readItem : Room := { frames := 6, cells := 0, slots := 0, locals := 130 }
theorem iX8_readItem_8 : ∀ w ∈ u_ws RX8 TX8 29, w ∈ wsX8_readItem := fun w h => List.mem_cons_of_mem _ (List.mem_append_right _ h)
noncomputable def fX8_readItem_L106   (w0 : Int32) (w1 : Int32) (w2 : Int32) (w3 : Int32) (M : Mem) : Option (Unit × Mem) := (bd (fX8_item w3 w2 w1 w0 M) fun _ M35 => (some ((), M35)))
set_option maxHeartbeats 4000000 in
set_option maxRecDepth 100000 in
theorem zX8_readItem_L106 (E : EV) (l : Launch)     : ∀ (w0 : Int32) (w1 : Int32) (w2 : Int32) (w3 : Int32) (M : Mem), ZZ E l RX8 cX8_readItem 4 none wsX8_readItem rmX8_readItem vV (fX8_readItem_L106 w0 w1 w2 w3 M) M [] 106 [.int w0, .int w1, .int w2, .int w3, .ref (eA E 57)] := by
  intro w0 w1 w2 w3 M
  unfold fX8_readItem_L106
  refine zz_callVv (npc := 109) (n := 4) (As := [.int w3, .int w2, .int w1, .int w0]) (by decide) (by rfl) rfl gX8_readItem_X8_item rfl rfl rfl (by decide +kernel) ⟨Nat.le_of_ble_eq_true rfl, Nat.le_of_ble_eq_true rfl⟩ rfl rfl (Nat.le_of_ble_eq_true rfl) (mtX8_item E l  w3 w2 w1 w0 M) dX8_readItem_106 rfl (fun _ M35 _ => ?_)
  refine zz_goto (npc := 0) (tgt := 198) dX8_readItem_109 (by decide) ?_
  exact zz_vret dX8_readItem_198
noncomputable def fX8_readItem_L80   (y1 : Int32) (y2 : Int32) (w0 : Int32) (M : Mem) : Option (Unit × Mem) := (bd (fX8_isNext 9 M) fun r32 M31 => (if r32 = 0 then (fX8_readItem_L106  0 w0 y2 y1 M31) else (bd (fX8_number 0 65535 M31) fun r34 M33 => (fX8_readItem_L106  r34 w0 y2 y1 M33))))
set_option maxHeartbeats 4000000 in
set_option maxRecDepth 100000 in
theorem zX8_readItem_L80 (E : EV) (l : Launch)     : ∀ (y1 : Int32) (y2 : Int32) (w0 : Int32) (M : Mem), ZZ E l RX8 cX8_readItem 4 none wsX8_readItem rmX8_readItem vV (fX8_readItem_L80 y1 y2 w0 M) M [(0, .ref (eA E 57)), (1, .int y1), (2, .int y2)] 80 [.int w0] := by
  intro y1 y2 w0 M
  unfold fX8_readItem_L80
  refine zz_istore_n (npc := 81) (lv1 := [(3, .int w0), (0, .ref (eA E 57)), (1, .int y1), (2, .int y2)]) rfl dX8_readItem_80 rfl (by decide) rfl ?_
  refine zz_aload_n (npc := 82) 1 rfl rfl dX8_readItem_81 rfl ?_
  refine zz_iload_n (npc := 83) 2 rfl rfl dX8_readItem_82 rfl ?_
  refine zz_iload_n (npc := 84) 3 rfl rfl dX8_readItem_83 rfl ?_
  refine zz_iload_n (npc := 85) 0 rfl rfl dX8_readItem_84 rfl ?_
  refine zz_aload_n (npc := 86) 1 rfl rfl dX8_readItem_85 rfl ?_
  refine zz_ldcwS (npc := 89) (j := 9) (tx := "needs") (List.mem_of_getElem? (i := 22) rfl) dX8_readItem_86 rfl ?_
  refine zz_callVi (npc := 92) (n := 1) (As := [.ref (eK E 9)]) (by decide) (by rfl) rfl gX8_readItem_X8_isNext rfl rfl rfl (by decide +kernel) ⟨Nat.le_of_ble_eq_true rfl, Nat.le_of_ble_eq_true rfl⟩ rfl rfl (Nat.le_of_ble_eq_true rfl) (mtX8_isNext E l 9 (by decide)  M) dX8_readItem_89 rfl (fun r32 M31 _ => ?_)
  refine zz_if_eq (tgt := 105) (npc := 95) dX8_readItem_92 (by decide) rfl ?_ ?_
  · refine zz_iconst (npc := 106) 0 (by decide) dX8_readItem_105 rfl ?_
    refine zz_sub (npc := 0) (lv1 := []) [] rfl ?_
    exact zX8_readItem_L106 E l  0 w0 y2 y1 M31
  · refine zz_aload_n (npc := 96) 1 rfl rfl dX8_readItem_95 rfl ?_
    refine zz_iconst (npc := 97) 0 (by decide) dX8_readItem_96 rfl ?_
    refine zz_ldc (npc := 99) 65535 (List.mem_of_getElem? (i := 2) rfl) dX8_readItem_97 rfl ?_
    refine zz_callVi (npc := 102) (n := 2) (As := [.int 0, .int 65535]) (by decide) (by rfl) rfl gX8_readItem_X8_number rfl rfl rfl (by decide +kernel) ⟨Nat.le_of_ble_eq_true rfl, Nat.le_of_ble_eq_true rfl⟩ rfl rfl (Nat.le_of_ble_eq_true rfl) (mtX8_number E l  0 65535 M31) dX8_readItem_99 rfl (fun r34 M33 _ => ?_)
    refine zz_goto (npc := 0) (tgt := 106) dX8_readItem_102 (by decide) ?_
    refine zz_sub (npc := 0) (lv1 := []) [] rfl ?_
    exact zX8_readItem_L106 E l  r34 w0 y2 y1 M33
noncomputable def fX8_readItem_L58   (y1 : Int32) (w0 : Int32) (M : Mem) : Option (Unit × Mem) := (bd (fX8_isNext 8 M) fun r28 M27 => (if r28 = 0 then (fX8_readItem_L80  y1 w0 3 M27) else (bd (fX8_number 0 9 M27) fun r30 M29 => (fX8_readItem_L80  y1 w0 r30 M29))))
set_option maxHeartbeats 4000000 in
set_option maxRecDepth 100000 in
theorem zX8_readItem_L58 (E : EV) (l : Launch)     : ∀ (y1 : Int32) (w0 : Int32) (M : Mem), ZZ E l RX8 cX8_readItem 4 none wsX8_readItem rmX8_readItem vV (fX8_readItem_L58 y1 w0 M) M [(0, .ref (eA E 57)), (1, .int y1)] 58 [.int w0] := by
  intro y1 w0 M
  unfold fX8_readItem_L58
  refine zz_istore_n (npc := 59) (lv1 := [(2, .int w0), (0, .ref (eA E 57)), (1, .int y1)]) rfl dX8_readItem_58 rfl (by decide) rfl ?_
  refine zz_aload_n (npc := 60) 1 rfl rfl dX8_readItem_59 rfl ?_
  refine zz_ldcwS (npc := 63) (j := 8) (tx := "strength") (List.mem_of_getElem? (i := 21) rfl) dX8_readItem_60 rfl ?_
  refine zz_callVi (npc := 66) (n := 1) (As := [.ref (eK E 8)]) (by decide) (by rfl) rfl gX8_readItem_X8_isNext rfl rfl rfl (by decide +kernel) ⟨Nat.le_of_ble_eq_true rfl, Nat.le_of_ble_eq_true rfl⟩ rfl rfl (Nat.le_of_ble_eq_true rfl) (mtX8_isNext E l 8 (by decide)  M) dX8_readItem_63 rfl (fun r28 M27 _ => ?_)
  refine zz_if_eq (tgt := 79) (npc := 69) dX8_readItem_66 (by decide) rfl ?_ ?_
  · refine zz_iconst (npc := 80) 3 (by decide) dX8_readItem_79 rfl ?_
    refine zz_sub (npc := 0) (lv1 := [(0, .ref (eA E 57)), (1, .int y1), (2, .int w0)]) [1, 2, 0] rfl ?_
    exact zX8_readItem_L80 E l  y1 w0 3 M27
  · refine zz_aload_n (npc := 70) 1 rfl rfl dX8_readItem_69 rfl ?_
    refine zz_iconst (npc := 71) 0 (by decide) dX8_readItem_70 rfl ?_
    refine zz_bipush (npc := 73) 9 (by decide) dX8_readItem_71 rfl ?_
    refine zz_callVi (npc := 76) (n := 2) (As := [.int 0, .int 9]) (by decide) (by rfl) rfl gX8_readItem_X8_number rfl rfl rfl (by decide +kernel) ⟨Nat.le_of_ble_eq_true rfl, Nat.le_of_ble_eq_true rfl⟩ rfl rfl (Nat.le_of_ble_eq_true rfl) (mtX8_number E l  0 9 M27) dX8_readItem_73 rfl (fun r30 M29 _ => ?_)
    refine zz_goto (npc := 0) (tgt := 80) dX8_readItem_76 (by decide) ?_
    refine zz_sub (npc := 0) (lv1 := [(0, .ref (eA E 57)), (1, .int y1), (2, .int w0)]) [1, 2, 0] rfl ?_
    exact zX8_readItem_L80 E l  y1 w0 r30 M29
noncomputable def fX8_readItem_L24   (y1 : Int32) (w0 : Int32) (M : Mem) : Option (Unit × Mem) := (bd (fX8_must w0 M) fun _ M21 => (wm (wr M21 57 24 ((M21 57 24) + 1)) fun M22 => (bd (fX8_isNext 7 M22) fun r24 M23 => (if r24 = 0 then (fX8_readItem_L58  y1 0 M23) else (bd (fX8_number 0 99 M23) fun r26 M25 => (fX8_readItem_L58  y1 r26 M25))))))
set_option maxHeartbeats 4000000 in
set_option maxRecDepth 100000 in
theorem zX8_readItem_L24 (E : EV) (l : Launch)     : ∀ (y1 : Int32) (w0 : Int32) (M : Mem), ZZ E l RX8 cX8_readItem 4 none wsX8_readItem rmX8_readItem vV (fX8_readItem_L24 y1 w0 M) M [(0, .ref (eA E 57)), (1, .int y1)] 24 [.int w0, .ref (eA E 57)] := by
  intro y1 w0 M
  unfold fX8_readItem_L24
  refine zz_callVv (npc := 27) (n := 1) (As := [.int w0]) (by decide) (by rfl) rfl gX8_readItem_X8_must rfl rfl rfl (by decide +kernel) ⟨Nat.le_of_ble_eq_true rfl, Nat.le_of_ble_eq_true rfl⟩ rfl rfl (Nat.le_of_ble_eq_true rfl) (mtX8_must E l  w0 M) dX8_readItem_24 rfl (fun _ M21 _ => ?_)
  refine zz_aload_n (npc := 28) 0 rfl rfl dX8_readItem_27 rfl ?_
  refine zz_dup (npc := 29) rfl dX8_readItem_28 rfl ?_
  refine zz_getI (npc := 32) (i := 24) (C0 := RX8) (T := TX8) (N := 29) (by decide) (by rfl) rfl (by decide) iX8_readItem_8 (List.mem_of_getElem? (i := 1) rfl) rfl dX8_readItem_29 rfl ?_
  refine zz_iconst (npc := 33) 1 (by decide) dX8_readItem_32 rfl ?_
  refine zz_iadd (npc := 34) dX8_readItem_33 rfl ?_
  refine zz_putI (npc := 37) (i := 24) (C0 := RX8) (T := TX8) (N := 29) (by decide) (by rfl) rfl (by decide) iX8_readItem_8 (List.mem_of_getElem? (i := 1) rfl) tyX8_ok nmX8 rfl rfl rfl dX8_readItem_34 rfl (fun M22 => ?_)
  refine zz_aload_n (npc := 38) 0 rfl rfl dX8_readItem_37 rfl ?_
  refine zz_ldcwS (npc := 41) (j := 7) (tx := "sun") (List.mem_of_getElem? (i := 20) rfl) dX8_readItem_38 rfl ?_
  refine zz_callVi (npc := 44) (n := 1) (As := [.ref (eK E 7)]) (by decide) (by rfl) rfl gX8_readItem_X8_isNext rfl rfl rfl (by decide +kernel) ⟨Nat.le_of_ble_eq_true rfl, Nat.le_of_ble_eq_true rfl⟩ rfl rfl (Nat.le_of_ble_eq_true rfl) (mtX8_isNext E l 7 (by decide)  M22) dX8_readItem_41 rfl (fun r24 M23 _ => ?_)
  refine zz_if_eq (tgt := 57) (npc := 47) dX8_readItem_44 (by decide) rfl ?_ ?_
  · refine zz_iconst (npc := 58) 0 (by decide) dX8_readItem_57 rfl ?_
    exact zX8_readItem_L58 E l  y1 0 M23
  · refine zz_aload_n (npc := 48) 0 rfl rfl dX8_readItem_47 rfl ?_
    refine zz_iconst (npc := 49) 0 (by decide) dX8_readItem_48 rfl ?_
    refine zz_bipush (npc := 51) 99 (by decide) dX8_readItem_49 rfl ?_
    refine zz_callVi (npc := 54) (n := 2) (As := [.int 0, .int 99]) (by decide) (by rfl) rfl gX8_readItem_X8_number rfl rfl rfl (by decide +kernel) ⟨Nat.le_of_ble_eq_true rfl, Nat.le_of_ble_eq_true rfl⟩ rfl rfl (Nat.le_of_ble_eq_true rfl) (mtX8_number E l  0 99 M23) dX8_readItem_51 rfl (fun r26 M25 _ => ?_)
    refine zz_goto (npc := 0) (tgt := 58) dX8_readItem_54 (by decide) ?_
    exact zX8_readItem_L58 E l  y1 r26 M25
noncomputable def fX8_readItem   (M : Mem) : Option (Unit × Mem) := (bd (fX8_kindTold M) fun r2 M1 => (if r2 < 0 then (bd (fX8_isNext 10 M1) fun r4 M3 => (if r4 = 0 then (bd (fX8_isNext 11 M3) fun r6 M5 => (if r6 = 0 then (bd (fX8_isWord 12 M5) fun r8 M7 => (bd (fX8_must r8 M7) fun _ M9 => (bd (fX8_number 0 16 M9) fun r11 M10 => (bd (fX8_item 12 r11 0 0 M10) fun _ M12 => (some ((), M12)))))) else (bd (fX8_number 0 65535 M5) fun r14 M13 => (bd (fX8_item 11 r14 0 0 M13) fun _ M15 => (some ((), M15)))))) else (bd (fX8_another (-1) M3) fun r17 M16 => (bd (fX8_another r17 M16) fun r19 M18 => (bd (fX8_item 10 r17 r19 0 M18) fun _ M20 => (some ((), M20))))))) else (if 8 ≤ (M1 57 24) then (fX8_readItem_L24  r2 0 M1) else (fX8_readItem_L24  r2 1 M1))))
set_option maxHeartbeats 4000000 in
set_option maxRecDepth 100000 in
theorem mtX8_readItem (E : EV) (l : Launch)    (M : Mem) : CT E l yX8_readItem wsX8_readItem rmX8_readItem vV [.ref (eA E 57)] (fX8_readItem  M) M := by
  refine ct_of (cc := cX8_readItem) (nL := 4) (ret := none) (by decide +kernel) rfl (Nat.le_of_ble_eq_true rfl) ?_
  show ZZ E l RX8 cX8_readItem 4 none wsX8_readItem rmX8_readItem vV (fX8_readItem  M) M [(0, .ref (eA E 57))] 0 []
  unfold fX8_readItem
  refine zz_aload_n (npc := 1) 0 rfl rfl dX8_readItem_0 rfl ?_
  refine zz_callVi (npc := 4) (n := 0) (As := []) (by decide) (by rfl) rfl gX8_readItem_X8_kindTold rfl rfl rfl (by decide +kernel) ⟨Nat.le_of_ble_eq_true rfl, Nat.le_of_ble_eq_true rfl⟩ rfl rfl (Nat.le_of_ble_eq_true rfl) (mtX8_kindTold E l   M) dX8_readItem_1 rfl (fun r2 M1 _ => ?_)
  refine zz_istore_n (npc := 5) (lv1 := [(1, .int r2), (0, .ref (eA E 57))]) rfl dX8_readItem_4 rfl (by decide) rfl ?_
  refine zz_iload_n (npc := 6) 0 rfl rfl dX8_readItem_5 rfl ?_
  refine zz_if_lt (tgt := 112) (npc := 9) dX8_readItem_6 (by decide) rfl ?_ ?_
  · refine zz_aload_n (npc := 113) 1 rfl rfl dX8_readItem_112 rfl ?_
    refine zz_ldcwS (npc := 116) (j := 10) (tx := "share") (List.mem_of_getElem? (i := 23) rfl) dX8_readItem_113 rfl ?_
    refine zz_callVi (npc := 119) (n := 1) (As := [.ref (eK E 10)]) (by decide) (by rfl) rfl gX8_readItem_X8_isNext rfl rfl rfl (by decide +kernel) ⟨Nat.le_of_ble_eq_true rfl, Nat.le_of_ble_eq_true rfl⟩ rfl rfl (Nat.le_of_ble_eq_true rfl) (mtX8_isNext E l 10 (by decide)  M1) dX8_readItem_116 rfl (fun r4 M3 _ => ?_)
    refine zz_if_eq (tgt := 144) (npc := 122) dX8_readItem_119 (by decide) rfl ?_ ?_
    · refine zz_aload_n (npc := 145) 1 rfl rfl dX8_readItem_144 rfl ?_
      refine zz_ldcwS (npc := 148) (j := 11) (tx := "light") (List.mem_of_getElem? (i := 24) rfl) dX8_readItem_145 rfl ?_
      refine zz_callVi (npc := 151) (n := 1) (As := [.ref (eK E 11)]) (by decide) (by rfl) rfl gX8_readItem_X8_isNext rfl rfl rfl (by decide +kernel) ⟨Nat.le_of_ble_eq_true rfl, Nat.le_of_ble_eq_true rfl⟩ rfl rfl (Nat.le_of_ble_eq_true rfl) (mtX8_isNext E l 11 (by decide)  M3) dX8_readItem_148 rfl (fun r6 M5 _ => ?_)
      refine zz_if_eq (tgt := 172) (npc := 154) dX8_readItem_151 (by decide) rfl ?_ ?_
      · refine zz_aload_n (npc := 173) 1 rfl rfl dX8_readItem_172 rfl ?_
        refine zz_aload_n (npc := 174) 1 rfl rfl dX8_readItem_173 rfl ?_
        refine zz_ldcwS (npc := 177) (j := 12) (tx := "hour") (List.mem_of_getElem? (i := 25) rfl) dX8_readItem_174 rfl ?_
        refine zz_callVi (npc := 180) (n := 1) (As := [.ref (eK E 12)]) (by decide) (by rfl) rfl gX8_readItem_X8_isWord rfl rfl rfl (by decide +kernel) ⟨Nat.le_of_ble_eq_true rfl, Nat.le_of_ble_eq_true rfl⟩ rfl rfl (Nat.le_of_ble_eq_true rfl) (mtX8_isWord E l 12 (by decide)  M5) dX8_readItem_177 rfl (fun r8 M7 _ => ?_)
        refine zz_callVv (npc := 183) (n := 1) (As := [.int r8]) (by decide) (by rfl) rfl gX8_readItem_X8_must rfl rfl rfl (by decide +kernel) ⟨Nat.le_of_ble_eq_true rfl, Nat.le_of_ble_eq_true rfl⟩ rfl rfl (Nat.le_of_ble_eq_true rfl) (mtX8_must E l  r8 M7) dX8_readItem_180 rfl (fun _ M9 _ => ?_)
        refine zz_aload_n (npc := 184) 1 rfl rfl dX8_readItem_183 rfl ?_
        refine zz_bipush (npc := 186) 12 (by decide) dX8_readItem_184 rfl ?_
        refine zz_aload_n (npc := 187) 1 rfl rfl dX8_readItem_186 rfl ?_
        refine zz_iconst (npc := 188) 0 (by decide) dX8_readItem_187 rfl ?_
        refine zz_bipush (npc := 190) 16 (by decide) dX8_readItem_188 rfl ?_
        refine zz_callVi (npc := 193) (n := 2) (As := [.int 0, .int 16]) (by decide) (by rfl) rfl gX8_readItem_X8_number rfl rfl rfl (by decide +kernel) ⟨Nat.le_of_ble_eq_true rfl, Nat.le_of_ble_eq_true rfl⟩ rfl rfl (Nat.le_of_ble_eq_true rfl) (mtX8_number E l  0 16 M9) dX8_readItem_190 rfl (fun r11 M10 _ => ?_)
        refine zz_iconst (npc := 194) 0 (by decide) dX8_readItem_193 rfl ?_
        refine zz_iconst (npc := 195) 0 (by decide) dX8_readItem_194 rfl ?_
        refine zz_callVv (npc := 198) (n := 4) (As := [.int 12, .int r11, .int 0, .int 0]) (by decide) (by rfl) rfl gX8_readItem_X8_item rfl rfl rfl (by decide +kernel) ⟨Nat.le_of_ble_eq_true rfl, Nat.le_of_ble_eq_true rfl⟩ rfl rfl (Nat.le_of_ble_eq_true rfl) (mtX8_item E l  12 r11 0 0 M10) dX8_readItem_195 rfl (fun _ M12 _ => ?_)
        exact zz_vret dX8_readItem_198
      · refine zz_aload_n (npc := 155) 1 rfl rfl dX8_readItem_154 rfl ?_
        refine zz_bipush (npc := 157) 11 (by decide) dX8_readItem_155 rfl ?_
        refine zz_aload_n (npc := 158) 1 rfl rfl dX8_readItem_157 rfl ?_
        refine zz_iconst (npc := 159) 0 (by decide) dX8_readItem_158 rfl ?_
        refine zz_ldc (npc := 161) 65535 (List.mem_of_getElem? (i := 2) rfl) dX8_readItem_159 rfl ?_
        refine zz_callVi (npc := 164) (n := 2) (As := [.int 0, .int 65535]) (by decide) (by rfl) rfl gX8_readItem_X8_number rfl rfl rfl (by decide +kernel) ⟨Nat.le_of_ble_eq_true rfl, Nat.le_of_ble_eq_true rfl⟩ rfl rfl (Nat.le_of_ble_eq_true rfl) (mtX8_number E l  0 65535 M5) dX8_readItem_161 rfl (fun r14 M13 _ => ?_)
        refine zz_iconst (npc := 165) 0 (by decide) dX8_readItem_164 rfl ?_
        refine zz_iconst (npc := 166) 0 (by decide) dX8_readItem_165 rfl ?_
        refine zz_callVv (npc := 169) (n := 4) (As := [.int 11, .int r14, .int 0, .int 0]) (by decide) (by rfl) rfl gX8_readItem_X8_item rfl rfl rfl (by decide +kernel) ⟨Nat.le_of_ble_eq_true rfl, Nat.le_of_ble_eq_true rfl⟩ rfl rfl (Nat.le_of_ble_eq_true rfl) (mtX8_item E l  11 r14 0 0 M13) dX8_readItem_166 rfl (fun _ M15 _ => ?_)
        refine zz_goto (npc := 0) (tgt := 198) dX8_readItem_169 (by decide) ?_
        exact zz_vret dX8_readItem_198
    · refine zz_aload_n (npc := 123) 1 rfl rfl dX8_readItem_122 rfl ?_
      refine zz_iconst (npc := 124) (-1) (by decide) dX8_readItem_123 rfl ?_
      refine zz_callVi (npc := 127) (n := 1) (As := [.int (-1)]) (by decide) (by rfl) rfl gX8_readItem_X8_another rfl rfl rfl (by decide +kernel) ⟨Nat.le_of_ble_eq_true rfl, Nat.le_of_ble_eq_true rfl⟩ rfl rfl (Nat.le_of_ble_eq_true rfl) (mtX8_another E l  (-1) M3) dX8_readItem_124 rfl (fun r17 M16 _ => ?_)
      refine zz_istore_n (npc := 128) (lv1 := [(2, .int r17), (1, .int r2), (0, .ref (eA E 57))]) rfl dX8_readItem_127 rfl (by decide) rfl ?_
      refine zz_aload_n (npc := 129) 2 rfl rfl dX8_readItem_128 rfl ?_
      refine zz_bipush (npc := 131) 10 (by decide) dX8_readItem_129 rfl ?_
      refine zz_iload_n (npc := 132) 0 rfl rfl dX8_readItem_131 rfl ?_
      refine zz_aload_n (npc := 133) 2 rfl rfl dX8_readItem_132 rfl ?_
      refine zz_iload_n (npc := 134) 0 rfl rfl dX8_readItem_133 rfl ?_
      refine zz_callVi (npc := 137) (n := 1) (As := [.int r17]) (by decide) (by rfl) rfl gX8_readItem_X8_another rfl rfl rfl (by decide +kernel) ⟨Nat.le_of_ble_eq_true rfl, Nat.le_of_ble_eq_true rfl⟩ rfl rfl (Nat.le_of_ble_eq_true rfl) (mtX8_another E l  r17 M16) dX8_readItem_134 rfl (fun r19 M18 _ => ?_)
      refine zz_iconst (npc := 138) 0 (by decide) dX8_readItem_137 rfl ?_
      refine zz_callVv (npc := 141) (n := 4) (As := [.int 10, .int r17, .int r19, .int 0]) (by decide) (by rfl) rfl gX8_readItem_X8_item rfl rfl rfl (by decide +kernel) ⟨Nat.le_of_ble_eq_true rfl, Nat.le_of_ble_eq_true rfl⟩ rfl rfl (Nat.le_of_ble_eq_true rfl) (mtX8_item E l  10 r17 r19 0 M18) dX8_readItem_138 rfl (fun _ M20 _ => ?_)
      refine zz_goto (npc := 0) (tgt := 198) dX8_readItem_141 (by decide) ?_
      exact zz_vret dX8_readItem_198
  · refine zz_aload_n (npc := 10) 1 rfl rfl dX8_readItem_9 rfl ?_
    refine zz_aload_n (npc := 11) 1 rfl rfl dX8_readItem_10 rfl ?_
    refine zz_getI (npc := 14) (i := 24) (C0 := RX8) (T := TX8) (N := 29) (by decide) (by rfl) rfl (by decide) iX8_readItem_8 (List.mem_of_getElem? (i := 1) rfl) rfl dX8_readItem_11 rfl ?_
    refine zz_bipush (npc := 16) 8 (by decide) dX8_readItem_14 rfl ?_
    refine zz_icmp_ge (tgt := 23) (npc := 19) dX8_readItem_16 (by decide) rfl ?_ ?_
    · refine zz_iconst (npc := 24) 0 (by decide) dX8_readItem_23 rfl ?_
      refine zz_sub (npc := 0) (lv1 := [(0, .ref (eA E 57)), (1, .int r2)]) [1, 0] rfl ?_
      exact zX8_readItem_L24 E l  r2 0 M1
    · refine zz_iconst (npc := 20) 1 (by decide) dX8_readItem_19 rfl ?_
      refine zz_goto (npc := 0) (tgt := 24) dX8_readItem_20 (by decide) ?_
      refine zz_sub (npc := 0) (lv1 := [(0, .ref (eA E 57)), (1, .int r2)]) [1, 0] rfl ?_
      exact zX8_readItem_L24 E l  r2 1 M1
abbrev rmX8_isSo : Room := { frames := 3, cells := 0, slots := 0, locals := 68 }
theorem iX8_isSo_8 : ∀ w ∈ u_ws RX8 TX8 29, w ∈ wsX8_isSo := fun w h => List.mem_cons_of_mem _ (List.mem_append_right _ h)
noncomputable def fX8_isSo  (x1 : Int32) (M : Mem) : Option (Int32 × Mem) := (ck (inb (x1 + 1) 480) (bv (M 68 (ix (x1 + 1))) fun v1 => (ck (inb (x1 + 2) 480) (bv (M 68 (ix (x1 + 2))) fun v2 => (ck (inb x1 480) (if (M 68 (ix x1)) = 10 then (bd (fX8_areMates v1 v2 M) fun r4 M3 => (some (r4, M3))) else (if (M 68 (ix x1)) = 11 then (bd (fX8_become 3 v1 M) fun r6 M5 => (some (r6, M5))) else (if (M 68 (ix x1)) = 12 then (bd (fX8_become 0 v1 M) fun r8 M7 => (some (r8, M7))) else (ck (inb x1 480) (ck (inb (x1 + 3) 480) (bd (fX8_comes (M 68 (ix x1)) v1 v2 (M 68 (ix (x1 + 3))) M) fun r10 M9 => (some (r10, M9)))))))))))))
set_option maxHeartbeats 4000000 in
set_option maxRecDepth 100000 in
theorem mtX8_isSo (E : EV) (l : Launch)   (x1 : Int32) (M : Mem) : CT E l yX8_isSo wsX8_isSo rmX8_isSo vI [.ref (eA E 57), .int x1] (fX8_isSo x1 M) M := by
  refine ct_of (cc := cX8_isSo) (nL := 4) (ret := (some .int)) (by decide +kernel) rfl (Nat.le_of_ble_eq_true rfl) ?_
  show ZZ E l RX8 cX8_isSo 4 (some .int) wsX8_isSo rmX8_isSo vI (fX8_isSo x1 M) M [(0, .ref (eA E 57)), (1, .int x1)] 0 []
  unfold fX8_isSo
  refine zz_aload_n (npc := 1) 0 rfl rfl dX8_isSo_0 rfl ?_
  refine zz_getR (npc := 4) (i := 22) (C0 := RX8) (T := TX8) (N := 29) (by decide) (by rfl) rfl (by decide) iX8_isSo_8 (List.mem_of_getElem? (i := 1) rfl) rfl dX8_isSo_1 rfl ?_
  refine zz_iload_n (npc := 5) 1 rfl rfl dX8_isSo_4 rfl ?_
  refine zz_iconst (npc := 6) 1 (by decide) dX8_isSo_5 rfl ?_
  refine zz_iadd (npc := 7) dX8_isSo_6 rfl ?_
  refine zz_iald (npc := 8) (by decide) (by rfl) dX8_isSo_7 rfl ?_
  refine zz_istore_nB (npc := 9) (lv1 := fun v1 => [(2, .int v1), (0, .ref (eA E 57)), (1, .int x1)]) rfl dX8_isSo_8 rfl (by decide) (fun _ => rfl) (fun v1 => ?_)
  refine zz_aload_n (npc := 10) 1 rfl rfl dX8_isSo_9 rfl ?_
  refine zz_getR (npc := 13) (i := 22) (C0 := RX8) (T := TX8) (N := 29) (by decide) (by rfl) rfl (by decide) iX8_isSo_8 (List.mem_of_getElem? (i := 1) rfl) rfl dX8_isSo_10 rfl ?_
  refine zz_iload_n (npc := 14) 2 rfl rfl dX8_isSo_13 rfl ?_
  refine zz_iconst (npc := 15) 2 (by decide) dX8_isSo_14 rfl ?_
  refine zz_iadd (npc := 16) dX8_isSo_15 rfl ?_
  refine zz_iald (npc := 17) (by decide) (by rfl) dX8_isSo_16 rfl ?_
  refine zz_istore_nB (npc := 18) (lv1 := fun v2 => [(3, .int v2), (2, .int v1), (0, .ref (eA E 57)), (1, .int x1)]) rfl dX8_isSo_17 rfl (by decide) (fun _ => rfl) (fun v2 => ?_)
  refine zz_aload_n (npc := 19) 2 rfl rfl dX8_isSo_18 rfl ?_
  refine zz_getR (npc := 22) (i := 22) (C0 := RX8) (T := TX8) (N := 29) (by decide) (by rfl) rfl (by decide) iX8_isSo_8 (List.mem_of_getElem? (i := 1) rfl) rfl dX8_isSo_19 rfl ?_
  refine zz_iload_n (npc := 23) 3 rfl rfl dX8_isSo_22 rfl ?_
  refine zz_iald (npc := 24) (by decide) (by rfl) dX8_isSo_23 rfl ?_
  refine zz_tcase (npc := 0) (off := 28) (tgt := 52) 10 dX8_isSo_24 (by decide) (by decide) (by decide) (by decide) (fun _ => ?_) (fun q24_0 => ?_)
  · refine zz_aload_n (npc := 53) 2 rfl rfl dX8_isSo_52 rfl ?_
    refine zz_iload_n (npc := 54) 1 rfl rfl dX8_isSo_53 rfl ?_
    refine zz_iload_n (npc := 55) 0 rfl rfl dX8_isSo_54 rfl ?_
    refine zz_callVi (npc := 58) (n := 2) (As := [.int v1, .int v2]) (by decide) (by rfl) rfl gX8_isSo_X8_areMates rfl rfl rfl (by decide +kernel) ⟨Nat.le_of_ble_eq_true rfl, Nat.le_of_ble_eq_true rfl⟩ rfl rfl (Nat.le_of_ble_eq_true rfl) (mtX8_areMates E l  v1 v2 M) dX8_isSo_55 rfl (fun r4 M3 _ => ?_)
    exact zz_iret dX8_isSo_58
  refine zz_tcase (npc := 0) (off := 35) (tgt := 59) 11 dX8_isSo_24 (by decide) (by decide) (by decide) (by decide) (fun _ => ?_) (fun q24_1 => ?_)
  · refine zz_aload_n (npc := 60) 2 rfl rfl dX8_isSo_59 rfl ?_
    refine zz_iconst (npc := 61) 3 (by decide) dX8_isSo_60 rfl ?_
    refine zz_iload_n (npc := 62) 1 rfl rfl dX8_isSo_61 rfl ?_
    refine zz_callVi (npc := 65) (n := 2) (As := [.int 3, .int v1]) (by decide) (by rfl) rfl gX8_isSo_X8_become rfl rfl rfl (by decide +kernel) ⟨Nat.le_of_ble_eq_true rfl, Nat.le_of_ble_eq_true rfl⟩ rfl rfl (Nat.le_of_ble_eq_true rfl) (mtX8_become E l  3 v1 M) dX8_isSo_62 rfl (fun r6 M5 _ => ?_)
    exact zz_iret dX8_isSo_65
  refine zz_tcase (npc := 0) (off := 42) (tgt := 66) 12 dX8_isSo_24 (by decide) (by decide) (by decide) (by decide) (fun _ => ?_) (fun q24_2 => ?_)
  · refine zz_aload_n (npc := 67) 2 rfl rfl dX8_isSo_66 rfl ?_
    refine zz_iconst (npc := 68) 0 (by decide) dX8_isSo_67 rfl ?_
    refine zz_iload_n (npc := 69) 1 rfl rfl dX8_isSo_68 rfl ?_
    refine zz_callVi (npc := 72) (n := 2) (As := [.int 0, .int v1]) (by decide) (by rfl) rfl gX8_isSo_X8_become rfl rfl rfl (by decide +kernel) ⟨Nat.le_of_ble_eq_true rfl, Nat.le_of_ble_eq_true rfl⟩ rfl rfl (Nat.le_of_ble_eq_true rfl) (mtX8_become E l  0 v1 M) dX8_isSo_69 rfl (fun r8 M7 _ => ?_)
    exact zz_iret dX8_isSo_72
  refine zz_tdef (npc := 0) (tgt := 73) dX8_isSo_24 (td_r _ 10 12 (by decide) (by intro k h1 h2; rcases (show k = 10 ∨ k = 11 ∨ k = 12 by omega) with rfl | rfl | rfl <;> first | exact q24_0 | exact q24_1 | exact q24_2)) (by decide) ?_
  refine zz_aload_n (npc := 74) 2 rfl rfl dX8_isSo_73 rfl ?_
  refine zz_aload_n (npc := 75) 2 rfl rfl dX8_isSo_74 rfl ?_
  refine zz_getR (npc := 78) (i := 22) (C0 := RX8) (T := TX8) (N := 29) (by decide) (by rfl) rfl (by decide) iX8_isSo_8 (List.mem_of_getElem? (i := 1) rfl) rfl dX8_isSo_75 rfl ?_
  refine zz_iload_n (npc := 79) 3 rfl rfl dX8_isSo_78 rfl ?_
  refine zz_iald (npc := 80) (by decide) (by rfl) dX8_isSo_79 rfl ?_
  refine zz_iload_n (npc := 81) 1 rfl rfl dX8_isSo_80 rfl ?_
  refine zz_iload_n (npc := 82) 0 rfl rfl dX8_isSo_81 rfl ?_
  refine zz_aload_n (npc := 83) 2 rfl rfl dX8_isSo_82 rfl ?_
  refine zz_getR (npc := 86) (i := 22) (C0 := RX8) (T := TX8) (N := 29) (by decide) (by rfl) rfl (by decide) iX8_isSo_8 (List.mem_of_getElem? (i := 1) rfl) rfl dX8_isSo_83 rfl ?_
  refine zz_iload_n (npc := 87) 3 rfl rfl dX8_isSo_86 rfl ?_
  refine zz_iconst (npc := 88) 3 (by decide) dX8_isSo_87 rfl ?_
  refine zz_iadd (npc := 89) dX8_isSo_88 rfl ?_
  refine zz_iald (npc := 90) (by decide) (by rfl) dX8_isSo_89 rfl ?_
  refine zz_callVi (npc := 93) (n := 4) (As := [.int (M 68 (ix x1)), .int v1, .int v2, .int (M 68 (ix (x1 + 3)))]) (by decide) (by rfl) rfl gX8_isSo_X8_comes rfl rfl rfl (by decide +kernel) ⟨Nat.le_of_ble_eq_true rfl, Nat.le_of_ble_eq_true rfl⟩ rfl rfl (Nat.le_of_ble_eq_true rfl) (mtX8_comes E l  (M 68 (ix x1)) v1 v2 (M 68 (ix (x1 + 3))) M) dX8_isSo_90 rfl (fun r10 M9 _ => ?_)
  exact zz_iret dX8_isSo_93
abbrev rmX8_text : Room := { frames := 7, cells := 0, slots := 0, locals := 153 }
theorem iX8_text_8 : ∀ w ∈ u_ws RX8 TX8 29, w ∈ wsX8_text := fun w h => List.mem_cons_of_mem _ (List.mem_append_right _ h)
noncomputable def fX8_text_L137  (k113 : Int32 → Int32 → Mem → Option (Int32 × Mem)) (y2 : Int32) (w0 : Int32) (w1 : Int32) (M : Mem) : Option (Int32 × Mem) := (bv (w1 + w0) fun v13 => (bv (y2 + 1) fun v14 => (k113 v13 v14 M)))
set_option maxHeartbeats 4000000 in
set_option maxRecDepth 100000 in
theorem zX8_text_L137 (E : EV) (l : Launch)   (k113 : Int32 → Int32 → Mem → Option (Int32 × Mem)) (hk113 : ∀ (y1_ : Int32) (y2_ : Int32) (M_ : Mem), ZZ E l RX8 cX8_text 3 (some .int) wsX8_text rmX8_text vI (k113 y1_ y2_ M_) M_ [(0, .ref (eA E 57)), (1, .int y1_), (2, .int y2_)] 113 []) : ∀ (y2 : Int32) (w0 : Int32) (w1 : Int32) (M : Mem), ZZ E l RX8 cX8_text 3 (some .int) wsX8_text rmX8_text vI (fX8_text_L137 k113 y2 w0 w1 M) M [(0, .ref (eA E 57)), (2, .int y2)] 137 [.int w0, .int w1] := by
  intro y2 w0 w1 M
  unfold fX8_text_L137
  refine zz_iadd (npc := 138) dX8_text_137 rfl ?_
  refine zz_istore_nB (npc := 139) (lv1 := fun v13 => [(1, .int v13), (0, .ref (eA E 57)), (2, .int y2)]) rfl dX8_text_138 rfl (by decide) (fun _ => rfl) (fun v13 => ?_)
  refine zz_iincB (npc := 142) (y2 + 1) (lv1 := fun v14 => [(2, .int v14), (1, .int v13), (0, .ref (eA E 57))]) dX8_text_139 rfl 2 rfl rfl (by decide) (fun _ => rfl) (fun v14 => ?_)
  refine zz_goto (npc := 0) (tgt := 113) dX8_text_142 (by decide) ?_
  refine zz_sub (npc := 0) (lv1 := [(0, .ref (eA E 57)), (1, .int v13), (2, .int v14)]) [2, 1, 0] rfl ?_
  exact hk113 v13 v14 M
noncomputable def fX8_text_L113   : Nat → Int32 → Int32 → Mem → Option (Int32 × Mem)
  | 0, _, _, _ => none
  | n + 1, y1, y2, M => (if (M 57 23) ≤ y2 then (some (y1, M)) else (bd (fX8_isSo (4 * y2) M) fun r12 M11 => (if 0 ≤ r12 then (fX8_text_L137 (fX8_text_L113  n) y2 1 y1 M11) else (fX8_text_L137 (fX8_text_L113  n) y2 0 y1 M11))))
set_option maxHeartbeats 4000000 in
set_option maxRecDepth 100000 in
theorem zX8_text_L113 (E : EV) (l : Launch)     : ∀ (n : Nat) (y1 : Int32) (y2 : Int32) (M : Mem), ZZ E l RX8 cX8_text 3 (some .int) wsX8_text rmX8_text vI (fX8_text_L113 n y1 y2 M) M [(0, .ref (eA E 57)), (1, .int y1), (2, .int y2)] 113 [] := by
  intro n
  induction n with
  | zero => intros; exact zz_none
  | succ n ih =>
    intro y1 y2 M
    rw [fX8_text_L113]
    refine zz_iload_n (npc := 114) 2 rfl rfl dX8_text_113 rfl ?_
    refine zz_aload_n (npc := 115) 0 rfl rfl dX8_text_114 rfl ?_
    refine zz_getI (npc := 118) (i := 23) (C0 := RX8) (T := TX8) (N := 29) (by decide) (by rfl) rfl (by decide) iX8_text_8 (List.mem_of_getElem? (i := 3) rfl) rfl dX8_text_115 rfl ?_
    refine zz_icmp_ge (tgt := 145) (npc := 121) dX8_text_118 (by decide) rfl ?_ ?_
    · refine zz_iload_n (npc := 146) 1 rfl rfl dX8_text_145 rfl ?_
      exact zz_iret dX8_text_146
    · refine zz_iload_n (npc := 122) 1 rfl rfl dX8_text_121 rfl ?_
      refine zz_aload_n (npc := 123) 0 rfl rfl dX8_text_122 rfl ?_
      refine zz_iconst (npc := 124) 4 (by decide) dX8_text_123 rfl ?_
      refine zz_iload_n (npc := 125) 2 rfl rfl dX8_text_124 rfl ?_
      refine zz_imul (npc := 126) dX8_text_125 rfl ?_
      refine zz_callVi (npc := 129) (n := 1) (As := [.int (4 * y2)]) (by decide) (by rfl) rfl gX8_text_X8_isSo rfl rfl rfl (by decide +kernel) ⟨Nat.le_of_ble_eq_true rfl, Nat.le_of_ble_eq_true rfl⟩ rfl rfl (Nat.le_of_ble_eq_true rfl) (mtX8_isSo E l  (4 * y2) M) dX8_text_126 rfl (fun r12 M11 _ => ?_)
      refine zz_if_ge (tgt := 136) (npc := 132) dX8_text_129 (by decide) rfl ?_ ?_
      · refine zz_iconst (npc := 137) 1 (by decide) dX8_text_136 rfl ?_
        refine zz_sub (npc := 0) (lv1 := [(0, .ref (eA E 57)), (2, .int y2)]) [0, 2] rfl ?_
        exact zX8_text_L137 E l (fX8_text_L113  n) ih y2 1 y1 M11
      · refine zz_iconst (npc := 133) 0 (by decide) dX8_text_132 rfl ?_
        refine zz_goto (npc := 0) (tgt := 137) dX8_text_133 (by decide) ?_
        refine zz_sub (npc := 0) (lv1 := [(0, .ref (eA E 57)), (2, .int y2)]) [0, 2] rfl ?_
        exact zX8_text_L137 E l (fX8_text_L113  n) ih y2 0 y1 M11
noncomputable def fX8_text_L87   (w0 : Int32) (M : Mem) : Option (Int32 × Mem) := (bd (fX8_must w0 M) fun _ M9 => (wm (wr M9 57 15 0) fun M10 => (if (M10 57 20) = 0 then (fX8_text_L113  fu 0 0 M10) else (some ((-1) - (M10 57 16), M10)))))
set_option maxHeartbeats 4000000 in
set_option maxRecDepth 100000 in
theorem zX8_text_L87 (E : EV) (l : Launch)     : ∀ (w0 : Int32) (M : Mem), ZZ E l RX8 cX8_text 3 (some .int) wsX8_text rmX8_text vI (fX8_text_L87 w0 M) M [(0, .ref (eA E 57))] 87 [.int w0, .ref (eA E 57)] := by
  intro w0 M
  unfold fX8_text_L87
  refine zz_callVv (npc := 90) (n := 1) (As := [.int w0]) (by decide) (by rfl) rfl gX8_text_X8_must rfl rfl rfl (by decide +kernel) ⟨Nat.le_of_ble_eq_true rfl, Nat.le_of_ble_eq_true rfl⟩ rfl rfl (Nat.le_of_ble_eq_true rfl) (mtX8_must E l  w0 M) dX8_text_87 rfl (fun _ M9 _ => ?_)
  refine zz_aload_n (npc := 91) 0 rfl rfl dX8_text_90 rfl ?_
  refine zz_iconst (npc := 92) 0 (by decide) dX8_text_91 rfl ?_
  refine zz_putI (npc := 95) (i := 15) (C0 := RX8) (T := TX8) (N := 29) (by decide) (by rfl) rfl (by decide) iX8_text_8 (List.mem_of_getElem? (i := 9) rfl) tyX8_ok nmX8 rfl rfl rfl dX8_text_92 rfl (fun M10 => ?_)
  refine zz_aload_n (npc := 96) 0 rfl rfl dX8_text_95 rfl ?_
  refine zz_getI (npc := 99) (i := 20) (C0 := RX8) (T := TX8) (N := 29) (by decide) (by rfl) rfl (by decide) iX8_text_8 (List.mem_of_getElem? (i := 2) rfl) rfl dX8_text_96 rfl ?_
  refine zz_if_eq (tgt := 109) (npc := 102) dX8_text_99 (by decide) rfl ?_ ?_
  · refine zz_iconst (npc := 110) 0 (by decide) dX8_text_109 rfl ?_
    refine zz_istore_n (npc := 111) (lv1 := [(1, .int 0), (0, .ref (eA E 57))]) rfl dX8_text_110 rfl (by decide) rfl ?_
    refine zz_iconst (npc := 112) 0 (by decide) dX8_text_111 rfl ?_
    refine zz_istore_n (npc := 113) (lv1 := [(2, .int 0), (1, .int 0), (0, .ref (eA E 57))]) rfl dX8_text_112 rfl (by decide) rfl ?_
    refine zz_sub (npc := 0) (lv1 := [(0, .ref (eA E 57)), (1, .int 0), (2, .int 0)]) [2, 1, 0] rfl ?_
    exact zX8_text_L113 E l  fu 0 0 M10
  · refine zz_iconst (npc := 103) (-1) (by decide) dX8_text_102 rfl ?_
    refine zz_aload_n (npc := 104) 0 rfl rfl dX8_text_103 rfl ?_
    refine zz_getI (npc := 107) (i := 16) (C0 := RX8) (T := TX8) (N := 29) (by decide) (by rfl) rfl (by decide) iX8_text_8 (List.mem_of_getElem? (i := 8) rfl) rfl dX8_text_104 rfl ?_
    refine zz_isub (npc := 108) dX8_text_107 rfl ?_
    exact zz_iret dX8_text_108
noncomputable def fX8_text_L74    (M : Mem) : Option (Int32 × Mem) := (if (M 57 18) = 0 then (fX8_text_L87  1 M) else (fX8_text_L87  0 M))
set_option maxHeartbeats 4000000 in
set_option maxRecDepth 100000 in
theorem zX8_text_L74 (E : EV) (l : Launch)     : ∀  (M : Mem), ZZ E l RX8 cX8_text 3 (some .int) wsX8_text rmX8_text vI (fX8_text_L74 M) M [(0, .ref (eA E 57))] 74 [] := by
  intro M
  unfold fX8_text_L74
  refine zz_aload_n (npc := 75) 0 rfl rfl dX8_text_74 rfl ?_
  refine zz_aload_n (npc := 76) 0 rfl rfl dX8_text_75 rfl ?_
  refine zz_getI (npc := 79) (i := 18) (C0 := RX8) (T := TX8) (N := 29) (by decide) (by rfl) rfl (by decide) iX8_text_8 (List.mem_of_getElem? (i := 6) rfl) rfl dX8_text_76 rfl ?_
  refine zz_if_ne (tgt := 86) (npc := 82) dX8_text_79 (by decide) rfl ?_ ?_
  · refine zz_iconst (npc := 87) 0 (by decide) dX8_text_86 rfl ?_
    exact zX8_text_L87 E l  0 M
  · refine zz_iconst (npc := 83) 1 (by decide) dX8_text_82 rfl ?_
    refine zz_goto (npc := 0) (tgt := 87) dX8_text_83 (by decide) ?_
    exact zX8_text_L87 E l  1 M
noncomputable def fX8_text_L33   : Nat → Mem → Option (Int32 × Mem)
  | 0, _ => none
  | n + 1, M => (if (M 57 20) = 0 then (if (M 57 18) = 3 then (ck (inb (M 57 16) 120) (if (M 66 (ix (M 57 16))) = 59 then (bd (fX8_must 1 M) fun _ M7 => (bd (fX8_readItem M7) fun _ M8 => (fX8_text_L33  n M8))) else (fX8_text_L74  M))) else (fX8_text_L74  M)) else (fX8_text_L74  M))
set_option maxHeartbeats 4000000 in
set_option maxRecDepth 100000 in
theorem zX8_text_L33 (E : EV) (l : Launch)     : ∀ (n : Nat)  (M : Mem), ZZ E l RX8 cX8_text 3 (some .int) wsX8_text rmX8_text vI (fX8_text_L33 n M) M [(0, .ref (eA E 57))] 33 [] := by
  intro n
  induction n with
  | zero => intros; exact zz_none
  | succ n ih =>
    intro M
    rw [fX8_text_L33]
    refine zz_aload_n (npc := 34) 0 rfl rfl dX8_text_33 rfl ?_
    refine zz_getI (npc := 37) (i := 20) (C0 := RX8) (T := TX8) (N := 29) (by decide) (by rfl) rfl (by decide) iX8_text_8 (List.mem_of_getElem? (i := 2) rfl) rfl dX8_text_34 rfl ?_
    refine zz_if_ne (tgt := 74) (npc := 40) dX8_text_37 (by decide) rfl ?_ ?_
    · exact zX8_text_L74 E l  M
    · refine zz_aload_n (npc := 41) 0 rfl rfl dX8_text_40 rfl ?_
      refine zz_getI (npc := 44) (i := 18) (C0 := RX8) (T := TX8) (N := 29) (by decide) (by rfl) rfl (by decide) iX8_text_8 (List.mem_of_getElem? (i := 6) rfl) rfl dX8_text_41 rfl ?_
      refine zz_iconst (npc := 45) 3 (by decide) dX8_text_44 rfl ?_
      refine zz_icmp_ne (tgt := 74) (npc := 48) dX8_text_45 (by decide) rfl ?_ ?_
      · exact zX8_text_L74 E l  M
      · refine zz_aload_n (npc := 49) 0 rfl rfl dX8_text_48 rfl ?_
        refine zz_getR (npc := 52) (i := 14) (C0 := RX8) (T := TX8) (N := 29) (by decide) (by rfl) rfl (by decide) iX8_text_8 (List.mem_of_getElem? (i := 7) rfl) rfl dX8_text_49 rfl ?_
        refine zz_aload_n (npc := 53) 0 rfl rfl dX8_text_52 rfl ?_
        refine zz_getI (npc := 56) (i := 16) (C0 := RX8) (T := TX8) (N := 29) (by decide) (by rfl) rfl (by decide) iX8_text_8 (List.mem_of_getElem? (i := 8) rfl) rfl dX8_text_53 rfl ?_
        refine zz_iald (npc := 57) (by decide) (by rfl) dX8_text_56 rfl ?_
        refine zz_bipush (npc := 59) 59 (by decide) dX8_text_57 rfl ?_
        refine zz_icmp_ne (tgt := 74) (npc := 62) dX8_text_59 (by decide) rfl ?_ ?_
        · exact zX8_text_L74 E l  M
        · refine zz_aload_n (npc := 63) 0 rfl rfl dX8_text_62 rfl ?_
          refine zz_iconst (npc := 64) 1 (by decide) dX8_text_63 rfl ?_
          refine zz_callVv (npc := 67) (n := 1) (As := [.int 1]) (by decide) (by rfl) rfl gX8_text_X8_must rfl rfl rfl (by decide +kernel) ⟨Nat.le_of_ble_eq_true rfl, Nat.le_of_ble_eq_true rfl⟩ rfl rfl (Nat.le_of_ble_eq_true rfl) (mtX8_must E l  1 M) dX8_text_64 rfl (fun _ M7 _ => ?_)
          refine zz_aload_n (npc := 68) 0 rfl rfl dX8_text_67 rfl ?_
          refine zz_callVv (npc := 71) (n := 0) (As := []) (by decide) (by rfl) rfl gX8_text_X8_readItem rfl rfl rfl (by decide +kernel) ⟨Nat.le_of_ble_eq_true rfl, Nat.le_of_ble_eq_true rfl⟩ rfl rfl (Nat.le_of_ble_eq_true rfl) (mtX8_readItem E l   M7) dX8_text_68 rfl (fun _ M8 _ => ?_)
          refine zz_goto (npc := 0) (tgt := 33) dX8_text_71 (by decide) ?_
          exact ih M8
noncomputable def fX8_text   (M : Mem) : Option (Int32 × Mem) := (wm (wr M 57 17 0) fun M1 => (ck (isb 0) (wm (wr M1 57 20 0) fun M2 => (wm (wr M2 57 23 0) fun M3 => (ck (inb 4 56) (wm (wr M3 57 24 (M3 58 (ix 4))) fun M4 => (bd (fX8_next M4) fun _ M5 => (bd (fX8_readItem M5) fun _ M6 => (fX8_text_L33  fu M6)))))))))
set_option maxHeartbeats 4000000 in
set_option maxRecDepth 100000 in
theorem mtX8_text (E : EV) (l : Launch)    (M : Mem) : CT E l yX8_text wsX8_text rmX8_text vI [.ref (eA E 57)] (fX8_text  M) M := by
  refine ct_of (cc := cX8_text) (nL := 3) (ret := (some .int)) (by decide +kernel) rfl (Nat.le_of_ble_eq_true rfl) ?_
  show ZZ E l RX8 cX8_text 3 (some .int) wsX8_text rmX8_text vI (fX8_text  M) M [(0, .ref (eA E 57))] 0 []
  unfold fX8_text
  refine zz_aload_n (npc := 1) 0 rfl rfl dX8_text_0 rfl ?_
  refine zz_iconst (npc := 2) 0 (by decide) dX8_text_1 rfl ?_
  refine zz_putI (npc := 5) (i := 17) (C0 := RX8) (T := TX8) (N := 29) (by decide) (by rfl) rfl (by decide) iX8_text_8 (List.mem_of_getElem? (i := 1) rfl) tyX8_ok nmX8 rfl rfl rfl dX8_text_2 rfl (fun M1 => ?_)
  refine zz_aload_n (npc := 6) 0 rfl rfl dX8_text_5 rfl ?_
  refine zz_iconst (npc := 7) 0 (by decide) dX8_text_6 rfl ?_
  refine zz_putZ (npc := 10) (i := 20) (C0 := RX8) (T := TX8) (N := 29) (by decide) (by rfl) rfl (by decide) iX8_text_8 (List.mem_of_getElem? (i := 2) rfl) tyX8_ok nmX8 rfl rfl rfl dX8_text_7 rfl (fun M2 => ?_)
  refine zz_aload_n (npc := 11) 0 rfl rfl dX8_text_10 rfl ?_
  refine zz_iconst (npc := 12) 0 (by decide) dX8_text_11 rfl ?_
  refine zz_putI (npc := 15) (i := 23) (C0 := RX8) (T := TX8) (N := 29) (by decide) (by rfl) rfl (by decide) iX8_text_8 (List.mem_of_getElem? (i := 3) rfl) tyX8_ok nmX8 rfl rfl rfl dX8_text_12 rfl (fun M3 => ?_)
  refine zz_aload_n (npc := 16) 0 rfl rfl dX8_text_15 rfl ?_
  refine zz_aload_n (npc := 17) 0 rfl rfl dX8_text_16 rfl ?_
  refine zz_getR (npc := 20) (i := 0) (C0 := RX8) (T := TX8) (N := 29) (by decide) (by rfl) rfl (by decide) iX8_text_8 (List.mem_of_getElem? (i := 4) rfl) rfl dX8_text_17 rfl ?_
  refine zz_iconst (npc := 21) 4 (by decide) dX8_text_20 rfl ?_
  refine zz_iald (npc := 22) (by decide) (by rfl) dX8_text_21 rfl ?_
  refine zz_putI (npc := 25) (i := 24) (C0 := RX8) (T := TX8) (N := 29) (by decide) (by rfl) rfl (by decide) iX8_text_8 (List.mem_of_getElem? (i := 5) rfl) tyX8_ok nmX8 rfl rfl rfl dX8_text_22 rfl (fun M4 => ?_)
  refine zz_aload_n (npc := 26) 0 rfl rfl dX8_text_25 rfl ?_
  refine zz_callVv (npc := 29) (n := 0) (As := []) (by decide) (by rfl) rfl gX8_text_X8_next rfl rfl rfl (by decide +kernel) ⟨Nat.le_of_ble_eq_true rfl, Nat.le_of_ble_eq_true rfl⟩ rfl rfl (Nat.le_of_ble_eq_true rfl) (mtX8_next E l   M4) dX8_text_26 rfl (fun _ M5 _ => ?_)
  refine zz_aload_n (npc := 30) 0 rfl rfl dX8_text_29 rfl ?_
  refine zz_callVv (npc := 33) (n := 0) (As := []) (by decide) (by rfl) rfl gX8_text_X8_readItem rfl rfl rfl (by decide +kernel) ⟨Nat.le_of_ble_eq_true rfl, Nat.le_of_ble_eq_true rfl⟩ rfl rfl (Nat.le_of_ble_eq_true rfl) (mtX8_readItem E l   M5) dX8_text_30 rfl (fun _ M6 _ => ?_)
  exact zX8_text_L33 E l  fu M6
abbrev rmX8_isSpot : Room := { frames := 1, cells := 0, slots := 0, locals := 22 }
noncomputable def fX8_isSpot  (x1 : Int32) (M : Mem) : Option (Int32 × Mem) := (bd (fX8_within x1 0 9 M) fun r2 M1 => (ck (isb r2) (some (r2, M1))))
set_option maxHeartbeats 4000000 in
set_option maxRecDepth 100000 in
theorem mtX8_isSpot (E : EV) (l : Launch)   (x1 : Int32) (M : Mem) : CT E l yX8_isSpot wsX8_isSpot rmX8_isSpot vI [.int x1] (fX8_isSpot x1 M) M := by
  refine ct_of (cc := cX8_isSpot) (nL := 1) (ret := (some .boolean)) (by decide +kernel) rfl (Nat.le_of_ble_eq_true rfl) ?_
  show ZZ E l RX8 cX8_isSpot 1 (some .boolean) wsX8_isSpot rmX8_isSpot vI (fX8_isSpot x1 M) M [(0, .int x1)] 0 []
  unfold fX8_isSpot
  refine zz_iload_n (npc := 1) 0 rfl rfl dX8_isSpot_0 rfl ?_
  refine zz_iconst (npc := 2) 0 (by decide) dX8_isSpot_1 rfl ?_
  refine zz_bipush (npc := 4) 9 (by decide) dX8_isSpot_2 rfl ?_
  refine zz_callSi (npc := 7) (n := 3) (As := [.int x1, .int 0, .int 9]) gX8_isSpot_X8_within rfl rfl rfl (by decide +kernel) ⟨Nat.le_of_ble_eq_true rfl, Nat.le_of_ble_eq_true rfl⟩ rfl rfl (Nat.le_of_ble_eq_true rfl) (mtX8_within E l  x1 0 9 M) dX8_isSpot_4 rfl (fun r2 M1 _ => ?_)
  exact zz_zret dX8_isSpot_7
abbrev rmX8_hold : Room := { frames := 2, cells := 0, slots := 0, locals := 43 }
theorem iX8_hold_8 : ∀ w ∈ u_ws RX8 TX8 29, w ∈ wsX8_hold := fun w h => List.mem_cons_of_mem _ (List.mem_append_right _ h)
noncomputable def fX8_hold_L20    (M : Mem) : Option (Int32 × Mem) := (bd (fX8_finding (-1000001) M) fun r6 M5 => (some (r6, M5)))
set_option maxHeartbeats 4000000 in
set_option maxRecDepth 100000 in
theorem zX8_hold_L20 (E : EV) (l : Launch)     : ∀  (M : Mem), ZZ E l RX8 cX8_hold 3 (some .int) wsX8_hold rmX8_hold vI (fX8_hold_L20 M) M [(0, .ref (eA E 57))] 20 [] := by
  intro M
  unfold fX8_hold_L20
  refine zz_aload_n (npc := 21) 0 rfl rfl dX8_hold_20 rfl ?_
  refine zz_ldc (npc := 23) (-1000001) (List.mem_of_getElem? (i := 1) rfl) dX8_hold_21 rfl ?_
  refine zz_callVi (npc := 26) (n := 1) (As := [.int (-1000001)]) (by decide) (by rfl) rfl gX8_hold_X8_finding rfl rfl rfl (by decide +kernel) ⟨Nat.le_of_ble_eq_true rfl, Nat.le_of_ble_eq_true rfl⟩ rfl rfl (Nat.le_of_ble_eq_true rfl) (mtX8_finding E l  (-1000001) M) dX8_hold_23 rfl (fun r6 M5 _ => ?_)
  exact zz_iret dX8_hold_26
noncomputable def fX8_hold_L27   (y1 : Int32) (y2 : Int32) (M : Mem) : Option (Int32 × Mem) := (ck (inb (6 + y1) 56) (wm (wr M 58 (ix (6 + y1)) y2) fun M7 => (some (1, M7))))
set_option maxHeartbeats 4000000 in
set_option maxRecDepth 100000 in
theorem zX8_hold_L27 (E : EV) (l : Launch)     : ∀ (y1 : Int32) (y2 : Int32) (M : Mem), ZZ E l RX8 cX8_hold 3 (some .int) wsX8_hold rmX8_hold vI (fX8_hold_L27 y1 y2 M) M [(0, .ref (eA E 57)), (1, .int y1), (2, .int y2)] 27 [] := by
  intro y1 y2 M
  unfold fX8_hold_L27
  refine zz_aload_n (npc := 28) 0 rfl rfl dX8_hold_27 rfl ?_
  refine zz_getR (npc := 31) (i := 0) (C0 := RX8) (T := TX8) (N := 29) (by decide) (by rfl) rfl (by decide) iX8_hold_8 (List.mem_of_getElem? (i := 2) rfl) rfl dX8_hold_28 rfl ?_
  refine zz_bipush (npc := 33) 6 (by decide) dX8_hold_31 rfl ?_
  refine zz_iload_n (npc := 34) 1 rfl rfl dX8_hold_33 rfl ?_
  refine zz_iadd (npc := 35) dX8_hold_34 rfl ?_
  refine zz_iload_n (npc := 36) 2 rfl rfl dX8_hold_35 rfl ?_
  refine zz_iast (npc := 37) (by decide) (by rfl) dX8_hold_36 rfl (fun M7 => ?_)
  refine zz_iconst (npc := 38) 1 (by decide) dX8_hold_37 rfl ?_
  exact zz_iret dX8_hold_38
noncomputable def fX8_hold  (x1 : Int32) (x2 : Int32) (M : Mem) : Option (Int32 × Mem) := (bd (fX8_isSpot x1 M) fun r2 M1 => (if r2 = 0 then (fX8_hold_L20  M1) else (if x2 = (-1) then (fX8_hold_L27  x1 x2 M1) else (bd (fX8_isPerson x2 M1) fun r4 M3 => (if r4 = 0 then (fX8_hold_L20  M3) else (fX8_hold_L27  x1 x2 M3))))))
set_option maxHeartbeats 4000000 in
set_option maxRecDepth 100000 in
theorem mtX8_hold (E : EV) (l : Launch)   (x1 : Int32) (x2 : Int32) (M : Mem) : CT E l yX8_hold wsX8_hold rmX8_hold vI [.ref (eA E 57), .int x1, .int x2] (fX8_hold x1 x2 M) M := by
  refine ct_of (cc := cX8_hold) (nL := 3) (ret := (some .int)) (by decide +kernel) rfl (Nat.le_of_ble_eq_true rfl) ?_
  show ZZ E l RX8 cX8_hold 3 (some .int) wsX8_hold rmX8_hold vI (fX8_hold x1 x2 M) M [(0, .ref (eA E 57)), (1, .int x1), (2, .int x2)] 0 []
  unfold fX8_hold
  refine zz_iload_n (npc := 1) 1 rfl rfl dX8_hold_0 rfl ?_
  refine zz_callSi (npc := 4) (n := 1) (As := [.int x1]) gX8_hold_X8_isSpot rfl rfl rfl (by decide +kernel) ⟨Nat.le_of_ble_eq_true rfl, Nat.le_of_ble_eq_true rfl⟩ rfl rfl (Nat.le_of_ble_eq_true rfl) (mtX8_isSpot E l  x1 M) dX8_hold_1 rfl (fun r2 M1 _ => ?_)
  refine zz_if_eq (tgt := 20) (npc := 7) dX8_hold_4 (by decide) rfl ?_ ?_
  · refine zz_sub (npc := 0) (lv1 := [(0, .ref (eA E 57))]) [0] rfl ?_
    exact zX8_hold_L20 E l  M1
  · refine zz_iload_n (npc := 8) 2 rfl rfl dX8_hold_7 rfl ?_
    refine zz_iconst (npc := 9) (-1) (by decide) dX8_hold_8 rfl ?_
    refine zz_icmp_eq (tgt := 27) (npc := 12) dX8_hold_9 (by decide) rfl ?_ ?_
    · exact zX8_hold_L27 E l  x1 x2 M1
    · refine zz_aload_n (npc := 13) 0 rfl rfl dX8_hold_12 rfl ?_
      refine zz_iload_n (npc := 14) 2 rfl rfl dX8_hold_13 rfl ?_
      refine zz_callVi (npc := 17) (n := 1) (As := [.int x2]) (by decide) (by rfl) rfl gX8_hold_X8_isPerson rfl rfl rfl (by decide +kernel) ⟨Nat.le_of_ble_eq_true rfl, Nat.le_of_ble_eq_true rfl⟩ rfl rfl (Nat.le_of_ble_eq_true rfl) (mtX8_isPerson E l  x2 M1) dX8_hold_14 rfl (fun r4 M3 _ => ?_)
      refine zz_if_ne (tgt := 27) (npc := 20) dX8_hold_17 (by decide) rfl ?_ ?_
      · exact zX8_hold_L27 E l  x1 x2 M3
      · refine zz_sub (npc := 0) (lv1 := [(0, .ref (eA E 57))]) [0] rfl ?_
        exact zX8_hold_L20 E l  M3
abbrev rmX8_as : Room := { frames := 2, cells := 0, slots := 0, locals := 43 }
theorem iX8_as_8 : ∀ w ∈ u_ws RX8 TX8 29, w ∈ wsX8_as := fun w h => List.mem_cons_of_mem _ (List.mem_append_right _ h)
noncomputable def fX8_as_L14    (M : Mem) : Option (Int32 × Mem) := (bd (fX8_finding (-1000001) M) fun r15 M14 => (some (r15, M14)))
set_option maxHeartbeats 4000000 in
set_option maxRecDepth 100000 in
theorem zX8_as_L14 (E : EV) (l : Launch)     : ∀  (M : Mem), ZZ E l RX8 cX8_as 4 (some .int) wsX8_as rmX8_as vI (fX8_as_L14 M) M [(0, .ref (eA E 57))] 14 [] := by
  intro M
  unfold fX8_as_L14
  refine zz_aload_n (npc := 15) 0 rfl rfl dX8_as_14 rfl ?_
  refine zz_ldc (npc := 17) (-1000001) (List.mem_of_getElem? (i := 1) rfl) dX8_as_15 rfl ?_
  refine zz_callVi (npc := 20) (n := 1) (As := [.int (-1000001)]) (by decide) (by rfl) rfl gX8_as_X8_finding rfl rfl rfl (by decide +kernel) ⟨Nat.le_of_ble_eq_true rfl, Nat.le_of_ble_eq_true rfl⟩ rfl rfl (Nat.le_of_ble_eq_true rfl) (mtX8_finding E l  (-1000001) M) dX8_as_17 rfl (fun r15 M14 _ => ?_)
  exact zz_iret dX8_as_20
noncomputable def fX8_as  (x1 : Int32) (x2 : Int32) (M : Mem) : Option (Int32 × Mem) := (bd (fX8_isSpot x1 M) fun r2 M1 => (if r2 = 0 then (fX8_as_L14  M1) else (bd (fX8_isKind x2 M1) fun r4 M3 => (if r4 = 0 then (fX8_as_L14  M3) else (ck (inb (6 + x1) 56) (bv (M3 58 (ix (6 + x1))) fun v5 => (if 0 ≤ v5 then (bd (fX8_personIs v5 0 M3) fun r7 M6 => (bd (fX8_isUnder r7 x2 M6) fun r9 M8 => (if r9 = 0 then (bd (fX8_finding (-1000003) M8) fun r11 M10 => (some (r11, M10))) else (some (v5, M8))))) else (bd (fX8_finding (-1000006) M3) fun r13 M12 => (some (r13, M12))))))))))
set_option maxHeartbeats 4000000 in
set_option maxRecDepth 100000 in
theorem mtX8_as (E : EV) (l : Launch)   (x1 : Int32) (x2 : Int32) (M : Mem) : CT E l yX8_as wsX8_as rmX8_as vI [.ref (eA E 57), .int x1, .int x2] (fX8_as x1 x2 M) M := by
  refine ct_of (cc := cX8_as) (nL := 4) (ret := (some .int)) (by decide +kernel) rfl (Nat.le_of_ble_eq_true rfl) ?_
  show ZZ E l RX8 cX8_as 4 (some .int) wsX8_as rmX8_as vI (fX8_as x1 x2 M) M [(0, .ref (eA E 57)), (1, .int x1), (2, .int x2)] 0 []
  unfold fX8_as
  refine zz_iload_n (npc := 1) 1 rfl rfl dX8_as_0 rfl ?_
  refine zz_callSi (npc := 4) (n := 1) (As := [.int x1]) gX8_as_X8_isSpot rfl rfl rfl (by decide +kernel) ⟨Nat.le_of_ble_eq_true rfl, Nat.le_of_ble_eq_true rfl⟩ rfl rfl (Nat.le_of_ble_eq_true rfl) (mtX8_isSpot E l  x1 M) dX8_as_1 rfl (fun r2 M1 _ => ?_)
  refine zz_if_eq (tgt := 14) (npc := 7) dX8_as_4 (by decide) rfl ?_ ?_
  · refine zz_sub (npc := 0) (lv1 := [(0, .ref (eA E 57))]) [0] rfl ?_
    exact zX8_as_L14 E l  M1
  · refine zz_iload_n (npc := 8) 2 rfl rfl dX8_as_7 rfl ?_
    refine zz_callSi (npc := 11) (n := 1) (As := [.int x2]) gX8_as_X8_isKind rfl rfl rfl (by decide +kernel) ⟨Nat.le_of_ble_eq_true rfl, Nat.le_of_ble_eq_true rfl⟩ rfl rfl (Nat.le_of_ble_eq_true rfl) (mtX8_isKind E l  x2 M1) dX8_as_8 rfl (fun r4 M3 _ => ?_)
    refine zz_if_ne (tgt := 21) (npc := 14) dX8_as_11 (by decide) rfl ?_ ?_
    · refine zz_aload_n (npc := 22) 0 rfl rfl dX8_as_21 rfl ?_
      refine zz_getR (npc := 25) (i := 0) (C0 := RX8) (T := TX8) (N := 29) (by decide) (by rfl) rfl (by decide) iX8_as_8 (List.mem_of_getElem? (i := 2) rfl) rfl dX8_as_22 rfl ?_
      refine zz_bipush (npc := 27) 6 (by decide) dX8_as_25 rfl ?_
      refine zz_iload_n (npc := 28) 1 rfl rfl dX8_as_27 rfl ?_
      refine zz_iadd (npc := 29) dX8_as_28 rfl ?_
      refine zz_iald (npc := 30) (by decide) (by rfl) dX8_as_29 rfl ?_
      refine zz_istore_nB (npc := 31) (lv1 := fun v5 => [(3, .int v5), (0, .ref (eA E 57)), (1, .int x1), (2, .int x2)]) rfl dX8_as_30 rfl (by decide) (fun _ => rfl) (fun v5 => ?_)
      refine zz_iload_n (npc := 32) 0 rfl rfl dX8_as_31 rfl ?_
      refine zz_if_ge (tgt := 42) (npc := 35) dX8_as_32 (by decide) rfl ?_ ?_
      · refine zz_aload_n (npc := 43) 1 rfl rfl dX8_as_42 rfl ?_
        refine zz_iload_n (npc := 44) 0 rfl rfl dX8_as_43 rfl ?_
        refine zz_iconst (npc := 45) 0 (by decide) dX8_as_44 rfl ?_
        refine zz_callVi (npc := 48) (n := 2) (As := [.int v5, .int 0]) (by decide) (by rfl) rfl gX8_as_X8_personIs rfl rfl rfl (by decide +kernel) ⟨Nat.le_of_ble_eq_true rfl, Nat.le_of_ble_eq_true rfl⟩ rfl rfl (Nat.le_of_ble_eq_true rfl) (mtX8_personIs E l  v5 0 M3) dX8_as_45 rfl (fun r7 M6 _ => ?_)
        refine zz_iload_n (npc := 49) 3 rfl rfl dX8_as_48 rfl ?_
        refine zz_callSi (npc := 52) (n := 2) (As := [.int r7, .int x2]) gX8_as_X8_isUnder rfl rfl rfl (by decide +kernel) ⟨Nat.le_of_ble_eq_true rfl, Nat.le_of_ble_eq_true rfl⟩ rfl rfl (Nat.le_of_ble_eq_true rfl) (mtX8_isUnder E l  r7 x2 M6) dX8_as_49 rfl (fun r9 M8 _ => ?_)
        refine zz_if_eq (tgt := 59) (npc := 55) dX8_as_52 (by decide) rfl ?_ ?_
        · refine zz_aload_n (npc := 60) 1 rfl rfl dX8_as_59 rfl ?_
          refine zz_ldcw (npc := 63) (-1000003) (List.mem_of_getElem? (i := 4) rfl) dX8_as_60 rfl ?_
          refine zz_callVi (npc := 66) (n := 1) (As := [.int (-1000003)]) (by decide) (by rfl) rfl gX8_as_X8_finding rfl rfl rfl (by decide +kernel) ⟨Nat.le_of_ble_eq_true rfl, Nat.le_of_ble_eq_true rfl⟩ rfl rfl (Nat.le_of_ble_eq_true rfl) (mtX8_finding E l  (-1000003) M8) dX8_as_63 rfl (fun r11 M10 _ => ?_)
          exact zz_iret dX8_as_66
        · refine zz_iload_n (npc := 56) 0 rfl rfl dX8_as_55 rfl ?_
          refine zz_goto (npc := 0) (tgt := 66) dX8_as_56 (by decide) ?_
          exact zz_iret dX8_as_66
      · refine zz_aload_n (npc := 36) 1 rfl rfl dX8_as_35 rfl ?_
        refine zz_ldc (npc := 38) (-1000006) (List.mem_of_getElem? (i := 3) rfl) dX8_as_36 rfl ?_
        refine zz_callVi (npc := 41) (n := 1) (As := [.int (-1000006)]) (by decide) (by rfl) rfl gX8_as_X8_finding rfl rfl rfl (by decide +kernel) ⟨Nat.le_of_ble_eq_true rfl, Nat.le_of_ble_eq_true rfl⟩ rfl rfl (Nat.le_of_ble_eq_true rfl) (mtX8_finding E l  (-1000006) M3) dX8_as_38 rfl (fun r13 M12 _ => ?_)
        exact zz_iret dX8_as_41
    · refine zz_sub (npc := 0) (lv1 := [(0, .ref (eA E 57))]) [0] rfl ?_
      exact zX8_as_L14 E l  M3
abbrev rmX8_cutTo : Room := { frames := 0, cells := 0, slots := 0, locals := 0 }
noncomputable def fX8_cutTo  (x1 : Int32) (x2 : Int32) (M : Mem) : Option (Int32 × Mem) := (if x2 = 8 then (some (i2b x1, M)) else (if x2 = 16 then (some (i2s x1, M)) else (some (x1, M))))
set_option maxHeartbeats 4000000 in
set_option maxRecDepth 100000 in
theorem mtX8_cutTo (E : EV) (l : Launch)   (x1 : Int32) (x2 : Int32) (M : Mem) : CT E l yX8_cutTo wsX8_cutTo rmX8_cutTo vI [.int x1, .int x2] (fX8_cutTo x1 x2 M) M := by
  refine ct_of (cc := cX8_cutTo) (nL := 2) (ret := (some .int)) (by decide +kernel) rfl (Nat.le_of_ble_eq_true rfl) ?_
  show ZZ E l RX8 cX8_cutTo 2 (some .int) wsX8_cutTo rmX8_cutTo vI (fX8_cutTo x1 x2 M) M [(0, .int x1), (1, .int x2)] 0 []
  unfold fX8_cutTo
  refine zz_iload_n (npc := 1) 1 rfl rfl dX8_cutTo_0 rfl ?_
  refine zz_bipush (npc := 3) 8 (by decide) dX8_cutTo_1 rfl ?_
  refine zz_icmp_ne (tgt := 11) (npc := 6) dX8_cutTo_3 (by decide) rfl ?_ ?_
  · refine zz_iload_n (npc := 12) 1 rfl rfl dX8_cutTo_11 rfl ?_
    refine zz_bipush (npc := 14) 16 (by decide) dX8_cutTo_12 rfl ?_
    refine zz_icmp_ne (tgt := 22) (npc := 17) dX8_cutTo_14 (by decide) rfl ?_ ?_
    · refine zz_iload_n (npc := 23) 0 rfl rfl dX8_cutTo_22 rfl ?_
      exact zz_iret dX8_cutTo_23
    · refine zz_iload_n (npc := 18) 0 rfl rfl dX8_cutTo_17 rfl ?_
      refine zz_i2s (npc := 19) dX8_cutTo_18 rfl ?_
      refine zz_goto (npc := 0) (tgt := 23) dX8_cutTo_19 (by decide) ?_
      exact zz_iret dX8_cutTo_23
  · refine zz_iload_n (npc := 7) 0 rfl rfl dX8_cutTo_6 rfl ?_
    refine zz_i2b (npc := 8) dX8_cutTo_7 rfl ?_
    refine zz_goto (npc := 0) (tgt := 23) dX8_cutTo_8 (by decide) ?_
    exact zz_iret dX8_cutTo_23
abbrev rmX8_sheet : Room := { frames := 2, cells := 0, slots := 0, locals := 42 }
theorem iX8_sheet_8 : ∀ w ∈ u_ws RX8 TX8 29, w ∈ wsX8_sheet := fun w h => List.mem_cons_of_mem _ (List.mem_append_right _ h)
noncomputable def fX8_sheet_L29    (M : Mem) : Option (Int32 × Mem) := (bd (fX8_finding (-1000001) M) fun r4 M3 => (some (r4, M3)))
set_option maxHeartbeats 4000000 in
set_option maxRecDepth 100000 in
theorem zX8_sheet_L29 (E : EV) (l : Launch)     : ∀  (M : Mem), ZZ E l RX8 cX8_sheet 5 (some .int) wsX8_sheet rmX8_sheet vI (fX8_sheet_L29 M) M [(0, .ref (eA E 57))] 29 [] := by
  intro M
  unfold fX8_sheet_L29
  refine zz_aload_n (npc := 30) 0 rfl rfl dX8_sheet_29 rfl ?_
  refine zz_ldc (npc := 32) (-1000001) (List.mem_of_getElem? (i := 1) rfl) dX8_sheet_30 rfl ?_
  refine zz_callVi (npc := 35) (n := 1) (As := [.int (-1000001)]) (by decide) (by rfl) rfl gX8_sheet_X8_finding rfl rfl rfl (by decide +kernel) ⟨Nat.le_of_ble_eq_true rfl, Nat.le_of_ble_eq_true rfl⟩ rfl rfl (Nat.le_of_ble_eq_true rfl) (mtX8_finding E l  (-1000001) M) dX8_sheet_32 rfl (fun r4 M3 _ => ?_)
  exact zz_iret dX8_sheet_35
noncomputable def fX8_sheet_L86   : Nat → Int32 → Int32 → Mem → Option (Int32 × Mem)
  | 0, _, _, _ => none
  | n + 1, y1, y4, M => (if 40 ≤ y4 then (ck (inb y1 4) (some (M 70 (ix y1), M))) else (ck (inb ((40 * y1) + y4) 160) (wm (wr M 71 (ix ((40 * y1) + y4)) 0) fun M11 => (bv (y4 + 1) fun v12 => (fX8_sheet_L86  n y1 v12 M11)))))
set_option maxHeartbeats 4000000 in
set_option maxRecDepth 100000 in
theorem zX8_sheet_L86 (E : EV) (l : Launch)     : ∀ (n : Nat) (y1 : Int32) (y4 : Int32) (M : Mem), ZZ E l RX8 cX8_sheet 5 (some .int) wsX8_sheet rmX8_sheet vI (fX8_sheet_L86 n y1 y4 M) M [(0, .ref (eA E 57)), (1, .int y1), (4, .int y4)] 86 [] := by
  intro n
  induction n with
  | zero => intros; exact zz_none
  | succ n ih =>
    intro y1 y4 M
    rw [fX8_sheet_L86]
    refine zz_iload (npc := 88) 2 rfl dX8_sheet_86 rfl ?_
    refine zz_bipush (npc := 90) 40 (by decide) dX8_sheet_88 rfl ?_
    refine zz_icmp_ge (tgt := 112) (npc := 93) dX8_sheet_90 (by decide) rfl ?_ ?_
    · refine zz_aload_n (npc := 113) 0 rfl rfl dX8_sheet_112 rfl ?_
      refine zz_getR (npc := 116) (i := 26) (C0 := RX8) (T := TX8) (N := 29) (by decide) (by rfl) rfl (by decide) iX8_sheet_8 (List.mem_of_getElem? (i := 4) rfl) rfl dX8_sheet_113 rfl ?_
      refine zz_iload_n (npc := 117) 1 rfl rfl dX8_sheet_116 rfl ?_
      refine zz_iald (npc := 118) (by decide) (by rfl) dX8_sheet_117 rfl ?_
      exact zz_iret dX8_sheet_118
    · refine zz_aload_n (npc := 94) 0 rfl rfl dX8_sheet_93 rfl ?_
      refine zz_getR (npc := 97) (i := 27) (C0 := RX8) (T := TX8) (N := 29) (by decide) (by rfl) rfl (by decide) iX8_sheet_8 (List.mem_of_getElem? (i := 5) rfl) rfl dX8_sheet_94 rfl ?_
      refine zz_bipush (npc := 99) 40 (by decide) dX8_sheet_97 rfl ?_
      refine zz_iload_n (npc := 100) 1 rfl rfl dX8_sheet_99 rfl ?_
      refine zz_imul (npc := 101) dX8_sheet_100 rfl ?_
      refine zz_iload (npc := 103) 2 rfl dX8_sheet_101 rfl ?_
      refine zz_iadd (npc := 104) dX8_sheet_103 rfl ?_
      refine zz_iconst (npc := 105) 0 (by decide) dX8_sheet_104 rfl ?_
      refine zz_iast (npc := 106) (by decide) (by rfl) dX8_sheet_105 rfl (fun M11 => ?_)
      refine zz_iincB (npc := 109) (y4 + 1) (lv1 := fun v12 => [(4, .int v12), (0, .ref (eA E 57)), (1, .int y1)]) dX8_sheet_106 rfl 2 rfl rfl (by decide) (fun _ => rfl) (fun v12 => ?_)
      refine zz_goto (npc := 0) (tgt := 86) dX8_sheet_109 (by decide) ?_
      refine zz_sub (npc := 0) (lv1 := [(0, .ref (eA E 57)), (1, .int y1), (4, .int v12)]) [1, 2, 0] rfl ?_
      exact ih y1 v12 M11
noncomputable def fX8_sheet_L82   (y1 : Int32) (w0 : Int32) (w1 : Int32) (M : Mem) : Option (Int32 × Mem) := (ck (inb w1 4) (wm (wr M 70 (ix w1) w0) fun M10 => (fX8_sheet_L86  fu y1 0 M10)))
set_option maxHeartbeats 4000000 in
set_option maxRecDepth 100000 in
theorem zX8_sheet_L82 (E : EV) (l : Launch)     : ∀ (y1 : Int32) (w0 : Int32) (w1 : Int32) (M : Mem), ZZ E l RX8 cX8_sheet 5 (some .int) wsX8_sheet rmX8_sheet vI (fX8_sheet_L82 y1 w0 w1 M) M [(0, .ref (eA E 57)), (1, .int y1)] 82 [.int w0, .int w1, .ref (eA E 70)] := by
  intro y1 w0 w1 M
  unfold fX8_sheet_L82
  refine zz_iast (npc := 83) (by decide) (by rfl) dX8_sheet_82 rfl (fun M10 => ?_)
  refine zz_iconst (npc := 84) 0 (by decide) dX8_sheet_83 rfl ?_
  refine zz_istore (npc := 86) (lv1 := [(4, .int 0), (0, .ref (eA E 57)), (1, .int y1)]) dX8_sheet_84 rfl (by decide) rfl ?_
  refine zz_sub (npc := 0) (lv1 := [(0, .ref (eA E 57)), (1, .int y1), (4, .int 0)]) [1, 2, 0] rfl ?_
  exact zX8_sheet_L86 E l  fu y1 0 M10
noncomputable def fX8_sheet_L36   (y1 : Int32) (y2 : Int32) (y3 : Int32) (M : Mem) : Option (Int32 × Mem) := (if 0 ≤ y3 then (if y3 ≤ 40 then (ck (inb y1 4) (wm (wr M 69 (ix y1) y2) fun M5 => (if y2 = 0 then (fX8_sheet_L82  y1 0 y1 M5) else (fX8_sheet_L82  y1 y3 y1 M5)))) else (bd (fX8_finding (-1000001) M) fun r7 M6 => (some (r7, M6)))) else (bd (fX8_finding (-1000007) M) fun r9 M8 => (some (r9, M8))))
set_option maxHeartbeats 4000000 in
set_option maxRecDepth 100000 in
theorem zX8_sheet_L36 (E : EV) (l : Launch)     : ∀ (y1 : Int32) (y2 : Int32) (y3 : Int32) (M : Mem), ZZ E l RX8 cX8_sheet 5 (some .int) wsX8_sheet rmX8_sheet vI (fX8_sheet_L36 y1 y2 y3 M) M [(0, .ref (eA E 57)), (1, .int y1), (2, .int y2), (3, .int y3)] 36 [] := by
  intro y1 y2 y3 M
  unfold fX8_sheet_L36
  refine zz_iload_n (npc := 37) 3 rfl rfl dX8_sheet_36 rfl ?_
  refine zz_if_ge (tgt := 48) (npc := 40) dX8_sheet_37 (by decide) rfl ?_ ?_
  · refine zz_iload_n (npc := 49) 3 rfl rfl dX8_sheet_48 rfl ?_
    refine zz_bipush (npc := 51) 40 (by decide) dX8_sheet_49 rfl ?_
    refine zz_icmp_le (tgt := 61) (npc := 54) dX8_sheet_51 (by decide) rfl ?_ ?_
    · refine zz_aload_n (npc := 62) 0 rfl rfl dX8_sheet_61 rfl ?_
      refine zz_getR (npc := 65) (i := 25) (C0 := RX8) (T := TX8) (N := 29) (by decide) (by rfl) rfl (by decide) iX8_sheet_8 (List.mem_of_getElem? (i := 3) rfl) rfl dX8_sheet_62 rfl ?_
      refine zz_iload_n (npc := 66) 1 rfl rfl dX8_sheet_65 rfl ?_
      refine zz_iload_n (npc := 67) 2 rfl rfl dX8_sheet_66 rfl ?_
      refine zz_iast (npc := 68) (by decide) (by rfl) dX8_sheet_67 rfl (fun M5 => ?_)
      refine zz_aload_n (npc := 69) 0 rfl rfl dX8_sheet_68 rfl ?_
      refine zz_getR (npc := 72) (i := 26) (C0 := RX8) (T := TX8) (N := 29) (by decide) (by rfl) rfl (by decide) iX8_sheet_8 (List.mem_of_getElem? (i := 4) rfl) rfl dX8_sheet_69 rfl ?_
      refine zz_iload_n (npc := 73) 1 rfl rfl dX8_sheet_72 rfl ?_
      refine zz_iload_n (npc := 74) 2 rfl rfl dX8_sheet_73 rfl ?_
      refine zz_if_ne (tgt := 81) (npc := 77) dX8_sheet_74 (by decide) rfl ?_ ?_
      · refine zz_iload_n (npc := 82) 3 rfl rfl dX8_sheet_81 rfl ?_
        refine zz_sub (npc := 0) (lv1 := [(0, .ref (eA E 57)), (1, .int y1)]) [0, 1] rfl ?_
        exact zX8_sheet_L82 E l  y1 y3 y1 M5
      · refine zz_iconst (npc := 78) 0 (by decide) dX8_sheet_77 rfl ?_
        refine zz_goto (npc := 0) (tgt := 82) dX8_sheet_78 (by decide) ?_
        refine zz_sub (npc := 0) (lv1 := [(0, .ref (eA E 57)), (1, .int y1)]) [0, 1] rfl ?_
        exact zX8_sheet_L82 E l  y1 0 y1 M5
    · refine zz_aload_n (npc := 55) 0 rfl rfl dX8_sheet_54 rfl ?_
      refine zz_ldc (npc := 57) (-1000001) (List.mem_of_getElem? (i := 1) rfl) dX8_sheet_55 rfl ?_
      refine zz_callVi (npc := 60) (n := 1) (As := [.int (-1000001)]) (by decide) (by rfl) rfl gX8_sheet_X8_finding rfl rfl rfl (by decide +kernel) ⟨Nat.le_of_ble_eq_true rfl, Nat.le_of_ble_eq_true rfl⟩ rfl rfl (Nat.le_of_ble_eq_true rfl) (mtX8_finding E l  (-1000001) M) dX8_sheet_57 rfl (fun r7 M6 _ => ?_)
      exact zz_iret dX8_sheet_60
  · refine zz_aload_n (npc := 41) 0 rfl rfl dX8_sheet_40 rfl ?_
    refine zz_ldcw (npc := 44) (-1000007) (List.mem_of_getElem? (i := 2) rfl) dX8_sheet_41 rfl ?_
    refine zz_callVi (npc := 47) (n := 1) (As := [.int (-1000007)]) (by decide) (by rfl) rfl gX8_sheet_X8_finding rfl rfl rfl (by decide +kernel) ⟨Nat.le_of_ble_eq_true rfl, Nat.le_of_ble_eq_true rfl⟩ rfl rfl (Nat.le_of_ble_eq_true rfl) (mtX8_finding E l  (-1000007) M) dX8_sheet_44 rfl (fun r9 M8 _ => ?_)
    exact zz_iret dX8_sheet_47
noncomputable def fX8_sheet  (x1 : Int32) (x2 : Int32) (x3 : Int32) (M : Mem) : Option (Int32 × Mem) := (bd (fX8_isSheet x1 M) fun r2 M1 => (if r2 = 0 then (fX8_sheet_L29  M1) else (if x2 = 0 then (fX8_sheet_L36  x1 x2 x3 M1) else (if x2 = 8 then (fX8_sheet_L36  x1 x2 x3 M1) else (if x2 = 16 then (fX8_sheet_L36  x1 x2 x3 M1) else (if x2 = 32 then (fX8_sheet_L36  x1 x2 x3 M1) else (fX8_sheet_L29  M1)))))))
set_option maxHeartbeats 4000000 in
set_option maxRecDepth 100000 in
theorem mtX8_sheet (E : EV) (l : Launch)   (x1 : Int32) (x2 : Int32) (x3 : Int32) (M : Mem) : CT E l yX8_sheet wsX8_sheet rmX8_sheet vI [.ref (eA E 57), .int x1, .int x2, .int x3] (fX8_sheet x1 x2 x3 M) M := by
  refine ct_of (cc := cX8_sheet) (nL := 5) (ret := (some .int)) (by decide +kernel) rfl (Nat.le_of_ble_eq_true rfl) ?_
  show ZZ E l RX8 cX8_sheet 5 (some .int) wsX8_sheet rmX8_sheet vI (fX8_sheet x1 x2 x3 M) M [(0, .ref (eA E 57)), (1, .int x1), (2, .int x2), (3, .int x3)] 0 []
  unfold fX8_sheet
  refine zz_iload_n (npc := 1) 1 rfl rfl dX8_sheet_0 rfl ?_
  refine zz_callSi (npc := 4) (n := 1) (As := [.int x1]) gX8_sheet_X8_isSheet rfl rfl rfl (by decide +kernel) ⟨Nat.le_of_ble_eq_true rfl, Nat.le_of_ble_eq_true rfl⟩ rfl rfl (Nat.le_of_ble_eq_true rfl) (mtX8_isSheet E l  x1 M) dX8_sheet_1 rfl (fun r2 M1 _ => ?_)
  refine zz_if_eq (tgt := 29) (npc := 7) dX8_sheet_4 (by decide) rfl ?_ ?_
  · refine zz_sub (npc := 0) (lv1 := [(0, .ref (eA E 57))]) [0] rfl ?_
    exact zX8_sheet_L29 E l  M1
  · refine zz_iload_n (npc := 8) 2 rfl rfl dX8_sheet_7 rfl ?_
    refine zz_if_eq (tgt := 36) (npc := 11) dX8_sheet_8 (by decide) rfl ?_ ?_
    · exact zX8_sheet_L36 E l  x1 x2 x3 M1
    · refine zz_iload_n (npc := 12) 2 rfl rfl dX8_sheet_11 rfl ?_
      refine zz_bipush (npc := 14) 8 (by decide) dX8_sheet_12 rfl ?_
      refine zz_icmp_eq (tgt := 36) (npc := 17) dX8_sheet_14 (by decide) rfl ?_ ?_
      · exact zX8_sheet_L36 E l  x1 x2 x3 M1
      · refine zz_iload_n (npc := 18) 2 rfl rfl dX8_sheet_17 rfl ?_
        refine zz_bipush (npc := 20) 16 (by decide) dX8_sheet_18 rfl ?_
        refine zz_icmp_eq (tgt := 36) (npc := 23) dX8_sheet_20 (by decide) rfl ?_ ?_
        · exact zX8_sheet_L36 E l  x1 x2 x3 M1
        · refine zz_iload_n (npc := 24) 2 rfl rfl dX8_sheet_23 rfl ?_
          refine zz_bipush (npc := 26) 32 (by decide) dX8_sheet_24 rfl ?_
          refine zz_icmp_eq (tgt := 36) (npc := 29) dX8_sheet_26 (by decide) rfl ?_ ?_
          · exact zX8_sheet_L36 E l  x1 x2 x3 M1
          · refine zz_sub (npc := 0) (lv1 := [(0, .ref (eA E 57))]) [0] rfl ?_
            exact zX8_sheet_L29 E l  M1
abbrev rmX8_write : Room := { frames := 2, cells := 0, slots := 0, locals := 42 }
theorem iX8_write_8 : ∀ w ∈ u_ws RX8 TX8 29, w ∈ wsX8_write := fun w h => List.mem_cons_of_mem _ (List.mem_append_right _ h)
noncomputable def fX8_write  (x1 : Int32) (x2 : Int32) (x3 : Int32) (M : Mem) : Option (Int32 × Mem) := (bd (fX8_isSheet x1 M) fun r2 M1 => (if r2 = 0 then (bd (fX8_finding (-1000001) M1) fun r13 M12 => (some (r13, M12))) else (ck (inb x1 4) (if (M1 69 (ix x1)) = 0 then (bd (fX8_finding (-1000006) M1) fun r11 M10 => (some (r11, M10))) else (ck (inb x1 4) (bd (fX8_within x2 0 ((M1 70 (ix x1)) - 1) M1) fun r4 M3 => (if r4 = 0 then (bd (fX8_finding (-1000001) M3) fun r9 M8 => (some (r9, M8))) else (ck (inb x1 4) (bd (fX8_cutTo x3 (M3 69 (ix x1)) M3) fun r6 M5 => (ck (inb ((40 * x1) + x2) 160) (wm (wr M5 71 (ix ((40 * x1) + x2)) r6) fun M7 => (some (1, M7)))))))))))))
set_option maxHeartbeats 4000000 in
set_option maxRecDepth 100000 in
theorem mtX8_write (E : EV) (l : Launch)   (x1 : Int32) (x2 : Int32) (x3 : Int32) (M : Mem) : CT E l yX8_write wsX8_write rmX8_write vI [.ref (eA E 57), .int x1, .int x2, .int x3] (fX8_write x1 x2 x3 M) M := by
  refine ct_of (cc := cX8_write) (nL := 4) (ret := (some .int)) (by decide +kernel) rfl (Nat.le_of_ble_eq_true rfl) ?_
  show ZZ E l RX8 cX8_write 4 (some .int) wsX8_write rmX8_write vI (fX8_write x1 x2 x3 M) M [(0, .ref (eA E 57)), (1, .int x1), (2, .int x2), (3, .int x3)] 0 []
  unfold fX8_write
  refine zz_iload_n (npc := 1) 1 rfl rfl dX8_write_0 rfl ?_
  refine zz_callSi (npc := 4) (n := 1) (As := [.int x1]) gX8_write_X8_isSheet rfl rfl rfl (by decide +kernel) ⟨Nat.le_of_ble_eq_true rfl, Nat.le_of_ble_eq_true rfl⟩ rfl rfl (Nat.le_of_ble_eq_true rfl) (mtX8_isSheet E l  x1 M) dX8_write_1 rfl (fun r2 M1 _ => ?_)
  refine zz_if_ne (tgt := 14) (npc := 7) dX8_write_4 (by decide) rfl ?_ ?_
  · refine zz_aload_n (npc := 15) 0 rfl rfl dX8_write_14 rfl ?_
    refine zz_getR (npc := 18) (i := 25) (C0 := RX8) (T := TX8) (N := 29) (by decide) (by rfl) rfl (by decide) iX8_write_8 (List.mem_of_getElem? (i := 2) rfl) rfl dX8_write_15 rfl ?_
    refine zz_iload_n (npc := 19) 1 rfl rfl dX8_write_18 rfl ?_
    refine zz_iald (npc := 20) (by decide) (by rfl) dX8_write_19 rfl ?_
    refine zz_if_ne (tgt := 30) (npc := 23) dX8_write_20 (by decide) rfl ?_ ?_
    · refine zz_iload_n (npc := 31) 2 rfl rfl dX8_write_30 rfl ?_
      refine zz_iconst (npc := 32) 0 (by decide) dX8_write_31 rfl ?_
      refine zz_aload_n (npc := 33) 0 rfl rfl dX8_write_32 rfl ?_
      refine zz_getR (npc := 36) (i := 26) (C0 := RX8) (T := TX8) (N := 29) (by decide) (by rfl) rfl (by decide) iX8_write_8 (List.mem_of_getElem? (i := 4) rfl) rfl dX8_write_33 rfl ?_
      refine zz_iload_n (npc := 37) 1 rfl rfl dX8_write_36 rfl ?_
      refine zz_iald (npc := 38) (by decide) (by rfl) dX8_write_37 rfl ?_
      refine zz_iconst (npc := 39) 1 (by decide) dX8_write_38 rfl ?_
      refine zz_isub (npc := 40) dX8_write_39 rfl ?_
      refine zz_callSi (npc := 43) (n := 3) (As := [.int x2, .int 0, .int ((M1 70 (ix x1)) - 1)]) gX8_write_X8_within rfl rfl rfl (by decide +kernel) ⟨Nat.le_of_ble_eq_true rfl, Nat.le_of_ble_eq_true rfl⟩ rfl rfl (Nat.le_of_ble_eq_true rfl) (mtX8_within E l  x2 0 ((M1 70 (ix x1)) - 1) M1) dX8_write_40 rfl (fun r4 M3 _ => ?_)
      refine zz_if_ne (tgt := 53) (npc := 46) dX8_write_43 (by decide) rfl ?_ ?_
      · refine zz_aload_n (npc := 54) 0 rfl rfl dX8_write_53 rfl ?_
        refine zz_getR (npc := 57) (i := 27) (C0 := RX8) (T := TX8) (N := 29) (by decide) (by rfl) rfl (by decide) iX8_write_8 (List.mem_of_getElem? (i := 5) rfl) rfl dX8_write_54 rfl ?_
        refine zz_bipush (npc := 59) 40 (by decide) dX8_write_57 rfl ?_
        refine zz_iload_n (npc := 60) 1 rfl rfl dX8_write_59 rfl ?_
        refine zz_imul (npc := 61) dX8_write_60 rfl ?_
        refine zz_iload_n (npc := 62) 2 rfl rfl dX8_write_61 rfl ?_
        refine zz_iadd (npc := 63) dX8_write_62 rfl ?_
        refine zz_iload_n (npc := 64) 3 rfl rfl dX8_write_63 rfl ?_
        refine zz_aload_n (npc := 65) 0 rfl rfl dX8_write_64 rfl ?_
        refine zz_getR (npc := 68) (i := 25) (C0 := RX8) (T := TX8) (N := 29) (by decide) (by rfl) rfl (by decide) iX8_write_8 (List.mem_of_getElem? (i := 2) rfl) rfl dX8_write_65 rfl ?_
        refine zz_iload_n (npc := 69) 1 rfl rfl dX8_write_68 rfl ?_
        refine zz_iald (npc := 70) (by decide) (by rfl) dX8_write_69 rfl ?_
        refine zz_callSi (npc := 73) (n := 2) (As := [.int x3, .int (M3 69 (ix x1))]) gX8_write_X8_cutTo rfl rfl rfl (by decide +kernel) ⟨Nat.le_of_ble_eq_true rfl, Nat.le_of_ble_eq_true rfl⟩ rfl rfl (Nat.le_of_ble_eq_true rfl) (mtX8_cutTo E l  x3 (M3 69 (ix x1)) M3) dX8_write_70 rfl (fun r6 M5 _ => ?_)
        refine zz_iast (npc := 74) (by decide) (by rfl) dX8_write_73 rfl (fun M7 => ?_)
        refine zz_iconst (npc := 75) 1 (by decide) dX8_write_74 rfl ?_
        exact zz_iret dX8_write_75
      · refine zz_aload_n (npc := 47) 0 rfl rfl dX8_write_46 rfl ?_
        refine zz_ldc (npc := 49) (-1000001) (List.mem_of_getElem? (i := 1) rfl) dX8_write_47 rfl ?_
        refine zz_callVi (npc := 52) (n := 1) (As := [.int (-1000001)]) (by decide) (by rfl) rfl gX8_write_X8_finding rfl rfl rfl (by decide +kernel) ⟨Nat.le_of_ble_eq_true rfl, Nat.le_of_ble_eq_true rfl⟩ rfl rfl (Nat.le_of_ble_eq_true rfl) (mtX8_finding E l  (-1000001) M3) dX8_write_49 rfl (fun r9 M8 _ => ?_)
        exact zz_iret dX8_write_52
    · refine zz_aload_n (npc := 24) 0 rfl rfl dX8_write_23 rfl ?_
      refine zz_ldc (npc := 26) (-1000006) (List.mem_of_getElem? (i := 3) rfl) dX8_write_24 rfl ?_
      refine zz_callVi (npc := 29) (n := 1) (As := [.int (-1000006)]) (by decide) (by rfl) rfl gX8_write_X8_finding rfl rfl rfl (by decide +kernel) ⟨Nat.le_of_ble_eq_true rfl, Nat.le_of_ble_eq_true rfl⟩ rfl rfl (Nat.le_of_ble_eq_true rfl) (mtX8_finding E l  (-1000006) M1) dX8_write_26 rfl (fun r11 M10 _ => ?_)
      exact zz_iret dX8_write_29
  · refine zz_aload_n (npc := 8) 0 rfl rfl dX8_write_7 rfl ?_
    refine zz_ldc (npc := 10) (-1000001) (List.mem_of_getElem? (i := 1) rfl) dX8_write_8 rfl ?_
    refine zz_callVi (npc := 13) (n := 1) (As := [.int (-1000001)]) (by decide) (by rfl) rfl gX8_write_X8_finding rfl rfl rfl (by decide +kernel) ⟨Nat.le_of_ble_eq_true rfl, Nat.le_of_ble_eq_true rfl⟩ rfl rfl (Nat.le_of_ble_eq_true rfl) (mtX8_finding E l  (-1000001) M1) dX8_write_10 rfl (fun r13 M12 _ => ?_)
    exact zz_iret dX8_write_13
abbrev rmX8_copy : Room := { frames := 2, cells := 0, slots := 0, locals := 42 }
theorem iX8_copy_8 : ∀ w ∈ u_ws RX8 TX8 29, w ∈ wsX8_copy := fun w h => List.mem_cons_of_mem _ (List.mem_append_right _ h)
noncomputable def fX8_copy_L14    (M : Mem) : Option (Int32 × Mem) := (bd (fX8_finding (-1000001) M) fun r8 M7 => (some (r8, M7)))
set_option maxHeartbeats 4000000 in
set_option maxRecDepth 100000 in
theorem zX8_copy_L14 (E : EV) (l : Launch)     : ∀  (M : Mem), ZZ E l RX8 cX8_copy 7 (some .int) wsX8_copy rmX8_copy vI (fX8_copy_L14 M) M [(0, .ref (eA E 57))] 14 [] := by
  intro M
  unfold fX8_copy_L14
  refine zz_aload_n (npc := 15) 0 rfl rfl dX8_copy_14 rfl ?_
  refine zz_ldc (npc := 17) (-1000001) (List.mem_of_getElem? (i := 1) rfl) dX8_copy_15 rfl ?_
  refine zz_callVi (npc := 20) (n := 1) (As := [.int (-1000001)]) (by decide) (by rfl) rfl gX8_copy_X8_finding rfl rfl rfl (by decide +kernel) ⟨Nat.le_of_ble_eq_true rfl, Nat.le_of_ble_eq_true rfl⟩ rfl rfl (Nat.le_of_ble_eq_true rfl) (mtX8_finding E l  (-1000001) M) dX8_copy_17 rfl (fun r8 M7 _ => ?_)
  exact zz_iret dX8_copy_20
noncomputable def fX8_copy_L39    (M : Mem) : Option (Int32 × Mem) := (bd (fX8_finding (-1000006) M) fun r10 M9 => (some (r10, M9)))
set_option maxHeartbeats 4000000 in
set_option maxRecDepth 100000 in
theorem zX8_copy_L39 (E : EV) (l : Launch)     : ∀  (M : Mem), ZZ E l RX8 cX8_copy 7 (some .int) wsX8_copy rmX8_copy vI (fX8_copy_L39 M) M [(0, .ref (eA E 57))] 39 [] := by
  intro M
  unfold fX8_copy_L39
  refine zz_aload_n (npc := 40) 0 rfl rfl dX8_copy_39 rfl ?_
  refine zz_ldc (npc := 42) (-1000006) (List.mem_of_getElem? (i := 3) rfl) dX8_copy_40 rfl ?_
  refine zz_callVi (npc := 45) (n := 1) (As := [.int (-1000006)]) (by decide) (by rfl) rfl gX8_copy_X8_finding rfl rfl rfl (by decide +kernel) ⟨Nat.le_of_ble_eq_true rfl, Nat.le_of_ble_eq_true rfl⟩ rfl rfl (Nat.le_of_ble_eq_true rfl) (mtX8_finding E l  (-1000006) M) dX8_copy_42 rfl (fun r10 M9 _ => ?_)
  exact zz_iret dX8_copy_45
noncomputable def fX8_copy_L118    (M : Mem) : Option (Int32 × Mem) := (bd (fX8_finding (-1000001) M) fun r12 M11 => (some (r12, M11)))
set_option maxHeartbeats 4000000 in
set_option maxRecDepth 100000 in
theorem zX8_copy_L118 (E : EV) (l : Launch)     : ∀  (M : Mem), ZZ E l RX8 cX8_copy 7 (some .int) wsX8_copy rmX8_copy vI (fX8_copy_L118 M) M [(0, .ref (eA E 57))] 118 [] := by
  intro M
  unfold fX8_copy_L118
  refine zz_aload_n (npc := 119) 0 rfl rfl dX8_copy_118 rfl ?_
  refine zz_ldc (npc := 121) (-1000001) (List.mem_of_getElem? (i := 1) rfl) dX8_copy_119 rfl ?_
  refine zz_callVi (npc := 124) (n := 1) (As := [.int (-1000001)]) (by decide) (by rfl) rfl gX8_copy_X8_finding rfl rfl rfl (by decide +kernel) ⟨Nat.le_of_ble_eq_true rfl, Nat.le_of_ble_eq_true rfl⟩ rfl rfl (Nat.le_of_ble_eq_true rfl) (mtX8_finding E l  (-1000001) M) dX8_copy_121 rfl (fun r12 M11 _ => ?_)
  exact zz_iret dX8_copy_124
noncomputable def fX8_copy_L165   : Nat → Int32 → Int32 → Int32 → Int32 → Mem → Option (Int32 × Mem)
  | 0, _, _, _, _, _ => none
  | n + 1, y3, y4, y5, y6, M => (if y5 ≤ y6 then (some (y5, M)) else (ck (inb y6 40) (ck (inb (((40 * y3) + y4) + y6) 160) (wm (wr M 71 (ix (((40 * y3) + y4) + y6)) (M 72 (ix y6))) fun M15 => (bv (y6 + 1) fun v16 => (fX8_copy_L165  n y3 y4 y5 v16 M15))))))
set_option maxHeartbeats 4000000 in
set_option maxRecDepth 100000 in
theorem zX8_copy_L165 (E : EV) (l : Launch)     : ∀ (n : Nat) (y3 : Int32) (y4 : Int32) (y5 : Int32) (y6 : Int32) (M : Mem), ZZ E l RX8 cX8_copy 7 (some .int) wsX8_copy rmX8_copy vI (fX8_copy_L165 n y3 y4 y5 y6 M) M [(0, .ref (eA E 57)), (3, .int y3), (4, .int y4), (5, .int y5), (6, .int y6)] 165 [] := by
  intro n
  induction n with
  | zero => intros; exact zz_none
  | succ n ih =>
    intro y3 y4 y5 y6 M
    rw [fX8_copy_L165]
    refine zz_iload (npc := 167) 4 rfl dX8_copy_165 rfl ?_
    refine zz_iload (npc := 169) 3 rfl dX8_copy_167 rfl ?_
    refine zz_icmp_ge (tgt := 200) (npc := 172) dX8_copy_169 (by decide) rfl ?_ ?_
    · refine zz_iload (npc := 202) 3 rfl dX8_copy_200 rfl ?_
      exact zz_iret dX8_copy_202
    · refine zz_aload_n (npc := 173) 0 rfl rfl dX8_copy_172 rfl ?_
      refine zz_getR (npc := 176) (i := 27) (C0 := RX8) (T := TX8) (N := 29) (by decide) (by rfl) rfl (by decide) iX8_copy_8 (List.mem_of_getElem? (i := 7) rfl) rfl dX8_copy_173 rfl ?_
      refine zz_bipush (npc := 178) 40 (by decide) dX8_copy_176 rfl ?_
      refine zz_iload_n (npc := 179) 1 rfl rfl dX8_copy_178 rfl ?_
      refine zz_imul (npc := 180) dX8_copy_179 rfl ?_
      refine zz_iload (npc := 182) 2 rfl dX8_copy_180 rfl ?_
      refine zz_iadd (npc := 183) dX8_copy_182 rfl ?_
      refine zz_iload (npc := 185) 4 rfl dX8_copy_183 rfl ?_
      refine zz_iadd (npc := 186) dX8_copy_185 rfl ?_
      refine zz_aload_n (npc := 187) 0 rfl rfl dX8_copy_186 rfl ?_
      refine zz_getR (npc := 190) (i := 28) (C0 := RX8) (T := TX8) (N := 29) (by decide) (by rfl) rfl (by decide) iX8_copy_8 (List.mem_of_getElem? (i := 6) rfl) rfl dX8_copy_187 rfl ?_
      refine zz_iload (npc := 192) 4 rfl dX8_copy_190 rfl ?_
      refine zz_iald (npc := 193) (by decide) (by rfl) dX8_copy_192 rfl ?_
      refine zz_iast (npc := 194) (by decide) (by rfl) dX8_copy_193 rfl (fun M15 => ?_)
      refine zz_iincB (npc := 197) (y6 + 1) (lv1 := fun v16 => [(6, .int v16), (0, .ref (eA E 57)), (3, .int y3), (4, .int y4), (5, .int y5)]) dX8_copy_194 rfl 4 rfl rfl (by decide) (fun _ => rfl) (fun v16 => ?_)
      refine zz_goto (npc := 0) (tgt := 165) dX8_copy_197 (by decide) ?_
      refine zz_sub (npc := 0) (lv1 := [(0, .ref (eA E 57)), (3, .int y3), (4, .int y4), (5, .int y5), (6, .int v16)]) [1, 2, 3, 4, 0] rfl ?_
      exact ih y3 y4 y5 v16 M15
noncomputable def fX8_copy_L128   : Nat → Int32 → Int32 → Int32 → Int32 → Int32 → Int32 → Mem → Option (Int32 × Mem)
  | 0, _, _, _, _, _, _, _ => none
  | n + 1, y1, y2, y3, y4, y5, y6, M => (if y5 ≤ y6 then (fX8_copy_L165  fu y3 y4 y5 0 M) else (ck (inb (((40 * y1) + y2) + y6) 160) (ck (inb y6 40) (wm (wr M 72 (ix y6) (M 71 (ix (((40 * y1) + y2) + y6)))) fun M13 => (bv (y6 + 1) fun v14 => (fX8_copy_L128  n y1 y2 y3 y4 y5 v14 M13))))))
set_option maxHeartbeats 4000000 in
set_option maxRecDepth 100000 in
theorem zX8_copy_L128 (E : EV) (l : Launch)     : ∀ (n : Nat) (y1 : Int32) (y2 : Int32) (y3 : Int32) (y4 : Int32) (y5 : Int32) (y6 : Int32) (M : Mem), ZZ E l RX8 cX8_copy 7 (some .int) wsX8_copy rmX8_copy vI (fX8_copy_L128 n y1 y2 y3 y4 y5 y6 M) M [(0, .ref (eA E 57)), (1, .int y1), (2, .int y2), (3, .int y3), (4, .int y4), (5, .int y5), (6, .int y6)] 128 [] := by
  intro n
  induction n with
  | zero => intros; exact zz_none
  | succ n ih =>
    intro y1 y2 y3 y4 y5 y6 M
    rw [fX8_copy_L128]
    refine zz_iload (npc := 130) 6 rfl dX8_copy_128 rfl ?_
    refine zz_iload (npc := 132) 5 rfl dX8_copy_130 rfl ?_
    refine zz_icmp_ge (tgt := 162) (npc := 135) dX8_copy_132 (by decide) rfl ?_ ?_
    · refine zz_iconst (npc := 163) 0 (by decide) dX8_copy_162 rfl ?_
      refine zz_istore (npc := 165) (lv1 := [(6, .int 0), (0, .ref (eA E 57)), (1, .int y1), (2, .int y2), (3, .int y3), (4, .int y4), (5, .int y5)]) dX8_copy_163 rfl (by decide) rfl ?_
      refine zz_sub (npc := 0) (lv1 := [(0, .ref (eA E 57)), (3, .int y3), (4, .int y4), (5, .int y5), (6, .int 0)]) [1, 4, 5, 6, 0] rfl ?_
      exact zX8_copy_L165 E l  fu y3 y4 y5 0 M
    · refine zz_aload_n (npc := 136) 0 rfl rfl dX8_copy_135 rfl ?_
      refine zz_getR (npc := 139) (i := 28) (C0 := RX8) (T := TX8) (N := 29) (by decide) (by rfl) rfl (by decide) iX8_copy_8 (List.mem_of_getElem? (i := 6) rfl) rfl dX8_copy_136 rfl ?_
      refine zz_iload (npc := 141) 6 rfl dX8_copy_139 rfl ?_
      refine zz_aload_n (npc := 142) 0 rfl rfl dX8_copy_141 rfl ?_
      refine zz_getR (npc := 145) (i := 27) (C0 := RX8) (T := TX8) (N := 29) (by decide) (by rfl) rfl (by decide) iX8_copy_8 (List.mem_of_getElem? (i := 7) rfl) rfl dX8_copy_142 rfl ?_
      refine zz_bipush (npc := 147) 40 (by decide) dX8_copy_145 rfl ?_
      refine zz_iload_n (npc := 148) 1 rfl rfl dX8_copy_147 rfl ?_
      refine zz_imul (npc := 149) dX8_copy_148 rfl ?_
      refine zz_iload_n (npc := 150) 2 rfl rfl dX8_copy_149 rfl ?_
      refine zz_iadd (npc := 151) dX8_copy_150 rfl ?_
      refine zz_iload (npc := 153) 6 rfl dX8_copy_151 rfl ?_
      refine zz_iadd (npc := 154) dX8_copy_153 rfl ?_
      refine zz_iald (npc := 155) (by decide) (by rfl) dX8_copy_154 rfl ?_
      refine zz_iast (npc := 156) (by decide) (by rfl) dX8_copy_155 rfl (fun M13 => ?_)
      refine zz_iincB (npc := 159) (y6 + 1) (lv1 := fun v14 => [(6, .int v14), (0, .ref (eA E 57)), (1, .int y1), (2, .int y2), (3, .int y3), (4, .int y4), (5, .int y5)]) dX8_copy_156 rfl 6 rfl rfl (by decide) (fun _ => rfl) (fun v14 => ?_)
      refine zz_goto (npc := 0) (tgt := 128) dX8_copy_159 (by decide) ?_
      refine zz_sub (npc := 0) (lv1 := [(0, .ref (eA E 57)), (1, .int y1), (2, .int y2), (3, .int y3), (4, .int y4), (5, .int y5), (6, .int v14)]) [1, 2, 3, 4, 5, 6, 0] rfl ?_
      exact ih y1 y2 y3 y4 y5 v14 M13
noncomputable def fX8_copy  (x1 : Int32) (x2 : Int32) (x3 : Int32) (x4 : Int32) (x5 : Int32) (M : Mem) : Option (Int32 × Mem) := (bd (fX8_isSheet x1 M) fun r2 M1 => (if r2 = 0 then (fX8_copy_L14  M1) else (bd (fX8_isSheet x3 M1) fun r4 M3 => (if r4 = 0 then (fX8_copy_L14  M3) else (ck (inb x1 4) (if (M3 69 (ix x1)) = 0 then (fX8_copy_L39  M3) else (ck (inb x3 4) (if (M3 69 (ix x3)) = 0 then (fX8_copy_L39  M3) else (ck (inb x1 4) (ck (inb x3 4) (if (M3 69 (ix x1)) = (M3 69 (ix x3)) then (if x2 < 0 then (fX8_copy_L118  M3) else (if x4 < 0 then (fX8_copy_L118  M3) else (if x5 < 0 then (fX8_copy_L118  M3) else (ck (inb x1 4) (if 0 < (lg_cmp (((x2).toInt64) + ((x5).toInt64)) ((M3 70 (ix x1)).toInt64)) then (fX8_copy_L118  M3) else (ck (inb x3 4) (if (lg_cmp (((x4).toInt64) + ((x5).toInt64)) ((M3 70 (ix x3)).toInt64)) ≤ 0 then (fX8_copy_L128  fu x1 x2 x3 x4 x5 0 M3) else (fX8_copy_L118  M3)))))))) else (bd (fX8_finding (-1000003) M3) fun r6 M5 => (some (r6, M5))))))))))))))
set_option maxHeartbeats 4000000 in
set_option maxRecDepth 100000 in
theorem mtX8_copy (E : EV) (l : Launch)   (x1 : Int32) (x2 : Int32) (x3 : Int32) (x4 : Int32) (x5 : Int32) (M : Mem) : CT E l yX8_copy wsX8_copy rmX8_copy vI [.ref (eA E 57), .int x1, .int x2, .int x3, .int x4, .int x5] (fX8_copy x1 x2 x3 x4 x5 M) M := by
  refine ct_of (cc := cX8_copy) (nL := 7) (ret := (some .int)) (by decide +kernel) rfl (Nat.le_of_ble_eq_true rfl) ?_
  show ZZ E l RX8 cX8_copy 7 (some .int) wsX8_copy rmX8_copy vI (fX8_copy x1 x2 x3 x4 x5 M) M [(0, .ref (eA E 57)), (1, .int x1), (2, .int x2), (3, .int x3), (4, .int x4), (5, .int x5)] 0 []
  unfold fX8_copy
  refine zz_iload_n (npc := 1) 1 rfl rfl dX8_copy_0 rfl ?_
  refine zz_callSi (npc := 4) (n := 1) (As := [.int x1]) gX8_copy_X8_isSheet rfl rfl rfl (by decide +kernel) ⟨Nat.le_of_ble_eq_true rfl, Nat.le_of_ble_eq_true rfl⟩ rfl rfl (Nat.le_of_ble_eq_true rfl) (mtX8_isSheet E l  x1 M) dX8_copy_1 rfl (fun r2 M1 _ => ?_)
  refine zz_if_eq (tgt := 14) (npc := 7) dX8_copy_4 (by decide) rfl ?_ ?_
  · refine zz_sub (npc := 0) (lv1 := [(0, .ref (eA E 57))]) [0] rfl ?_
    exact zX8_copy_L14 E l  M1
  · refine zz_iload_n (npc := 8) 3 rfl rfl dX8_copy_7 rfl ?_
    refine zz_callSi (npc := 11) (n := 1) (As := [.int x3]) gX8_copy_X8_isSheet rfl rfl rfl (by decide +kernel) ⟨Nat.le_of_ble_eq_true rfl, Nat.le_of_ble_eq_true rfl⟩ rfl rfl (Nat.le_of_ble_eq_true rfl) (mtX8_isSheet E l  x3 M1) dX8_copy_8 rfl (fun r4 M3 _ => ?_)
    refine zz_if_ne (tgt := 21) (npc := 14) dX8_copy_11 (by decide) rfl ?_ ?_
    · refine zz_aload_n (npc := 22) 0 rfl rfl dX8_copy_21 rfl ?_
      refine zz_getR (npc := 25) (i := 25) (C0 := RX8) (T := TX8) (N := 29) (by decide) (by rfl) rfl (by decide) iX8_copy_8 (List.mem_of_getElem? (i := 2) rfl) rfl dX8_copy_22 rfl ?_
      refine zz_iload_n (npc := 26) 1 rfl rfl dX8_copy_25 rfl ?_
      refine zz_iald (npc := 27) (by decide) (by rfl) dX8_copy_26 rfl ?_
      refine zz_if_eq (tgt := 39) (npc := 30) dX8_copy_27 (by decide) rfl ?_ ?_
      · refine zz_sub (npc := 0) (lv1 := [(0, .ref (eA E 57))]) [0] rfl ?_
        exact zX8_copy_L39 E l  M3
      · refine zz_aload_n (npc := 31) 0 rfl rfl dX8_copy_30 rfl ?_
        refine zz_getR (npc := 34) (i := 25) (C0 := RX8) (T := TX8) (N := 29) (by decide) (by rfl) rfl (by decide) iX8_copy_8 (List.mem_of_getElem? (i := 2) rfl) rfl dX8_copy_31 rfl ?_
        refine zz_iload_n (npc := 35) 3 rfl rfl dX8_copy_34 rfl ?_
        refine zz_iald (npc := 36) (by decide) (by rfl) dX8_copy_35 rfl ?_
        refine zz_if_ne (tgt := 46) (npc := 39) dX8_copy_36 (by decide) rfl ?_ ?_
        · refine zz_aload_n (npc := 47) 0 rfl rfl dX8_copy_46 rfl ?_
          refine zz_getR (npc := 50) (i := 25) (C0 := RX8) (T := TX8) (N := 29) (by decide) (by rfl) rfl (by decide) iX8_copy_8 (List.mem_of_getElem? (i := 2) rfl) rfl dX8_copy_47 rfl ?_
          refine zz_iload_n (npc := 51) 1 rfl rfl dX8_copy_50 rfl ?_
          refine zz_iald (npc := 52) (by decide) (by rfl) dX8_copy_51 rfl ?_
          refine zz_aload_n (npc := 53) 0 rfl rfl dX8_copy_52 rfl ?_
          refine zz_getR (npc := 56) (i := 25) (C0 := RX8) (T := TX8) (N := 29) (by decide) (by rfl) rfl (by decide) iX8_copy_8 (List.mem_of_getElem? (i := 2) rfl) rfl dX8_copy_53 rfl ?_
          refine zz_iload_n (npc := 57) 3 rfl rfl dX8_copy_56 rfl ?_
          refine zz_iald (npc := 58) (by decide) (by rfl) dX8_copy_57 rfl ?_
          refine zz_icmp_eq (tgt := 69) (npc := 61) dX8_copy_58 (by decide) rfl ?_ ?_
          · refine zz_iload_n (npc := 70) 2 rfl rfl dX8_copy_69 rfl ?_
            refine zz_if_lt (tgt := 118) (npc := 73) dX8_copy_70 (by decide) rfl ?_ ?_
            · refine zz_sub (npc := 0) (lv1 := [(0, .ref (eA E 57))]) [0] rfl ?_
              exact zX8_copy_L118 E l  M3
            · refine zz_iload (npc := 75) 4 rfl dX8_copy_73 rfl ?_
              refine zz_if_lt (tgt := 118) (npc := 78) dX8_copy_75 (by decide) rfl ?_ ?_
              · refine zz_sub (npc := 0) (lv1 := [(0, .ref (eA E 57))]) [0] rfl ?_
                exact zX8_copy_L118 E l  M3
              · refine zz_iload (npc := 80) 5 rfl dX8_copy_78 rfl ?_
                refine zz_if_lt (tgt := 118) (npc := 83) dX8_copy_80 (by decide) rfl ?_ ?_
                · refine zz_sub (npc := 0) (lv1 := [(0, .ref (eA E 57))]) [0] rfl ?_
                  exact zX8_copy_L118 E l  M3
                · refine zz_iload_n (npc := 84) 2 rfl rfl dX8_copy_83 rfl ?_
                  refine zz_i2l (npc := 85) dX8_copy_84 rfl ?_
                  refine zz_iload (npc := 87) 5 rfl dX8_copy_85 rfl ?_
                  refine zz_i2l (npc := 88) dX8_copy_87 rfl ?_
                  refine zz_ladd (npc := 89) dX8_copy_88 rfl ?_
                  refine zz_aload_n (npc := 90) 0 rfl rfl dX8_copy_89 rfl ?_
                  refine zz_getR (npc := 93) (i := 26) (C0 := RX8) (T := TX8) (N := 29) (by decide) (by rfl) rfl (by decide) iX8_copy_8 (List.mem_of_getElem? (i := 5) rfl) rfl dX8_copy_90 rfl ?_
                  refine zz_iload_n (npc := 94) 1 rfl rfl dX8_copy_93 rfl ?_
                  refine zz_iald (npc := 95) (by decide) (by rfl) dX8_copy_94 rfl ?_
                  refine zz_i2l (npc := 96) dX8_copy_95 rfl ?_
                  refine zz_lcmp (npc := 97) dX8_copy_96 rfl ?_
                  refine zz_if_gt (tgt := 118) (npc := 100) dX8_copy_97 (by decide) rfl ?_ ?_
                  · refine zz_sub (npc := 0) (lv1 := [(0, .ref (eA E 57))]) [0] rfl ?_
                    exact zX8_copy_L118 E l  M3
                  · refine zz_iload (npc := 102) 4 rfl dX8_copy_100 rfl ?_
                    refine zz_i2l (npc := 103) dX8_copy_102 rfl ?_
                    refine zz_iload (npc := 105) 5 rfl dX8_copy_103 rfl ?_
                    refine zz_i2l (npc := 106) dX8_copy_105 rfl ?_
                    refine zz_ladd (npc := 107) dX8_copy_106 rfl ?_
                    refine zz_aload_n (npc := 108) 0 rfl rfl dX8_copy_107 rfl ?_
                    refine zz_getR (npc := 111) (i := 26) (C0 := RX8) (T := TX8) (N := 29) (by decide) (by rfl) rfl (by decide) iX8_copy_8 (List.mem_of_getElem? (i := 5) rfl) rfl dX8_copy_108 rfl ?_
                    refine zz_iload_n (npc := 112) 3 rfl rfl dX8_copy_111 rfl ?_
                    refine zz_iald (npc := 113) (by decide) (by rfl) dX8_copy_112 rfl ?_
                    refine zz_i2l (npc := 114) dX8_copy_113 rfl ?_
                    refine zz_lcmp (npc := 115) dX8_copy_114 rfl ?_
                    refine zz_if_le (tgt := 125) (npc := 118) dX8_copy_115 (by decide) rfl ?_ ?_
                    · refine zz_iconst (npc := 126) 0 (by decide) dX8_copy_125 rfl ?_
                      refine zz_istore (npc := 128) (lv1 := [(6, .int 0), (0, .ref (eA E 57)), (1, .int x1), (2, .int x2), (3, .int x3), (4, .int x4), (5, .int x5)]) dX8_copy_126 rfl (by decide) rfl ?_
                      refine zz_sub (npc := 0) (lv1 := [(0, .ref (eA E 57)), (1, .int x1), (2, .int x2), (3, .int x3), (4, .int x4), (5, .int x5), (6, .int 0)]) [1, 2, 3, 4, 5, 6, 0] rfl ?_
                      exact zX8_copy_L128 E l  fu x1 x2 x3 x4 x5 0 M3
                    · refine zz_sub (npc := 0) (lv1 := [(0, .ref (eA E 57))]) [0] rfl ?_
                      exact zX8_copy_L118 E l  M3
          · refine zz_aload_n (npc := 62) 0 rfl rfl dX8_copy_61 rfl ?_
            refine zz_ldcw (npc := 65) (-1000003) (List.mem_of_getElem? (i := 4) rfl) dX8_copy_62 rfl ?_
            refine zz_callVi (npc := 68) (n := 1) (As := [.int (-1000003)]) (by decide) (by rfl) rfl gX8_copy_X8_finding rfl rfl rfl (by decide +kernel) ⟨Nat.le_of_ble_eq_true rfl, Nat.le_of_ble_eq_true rfl⟩ rfl rfl (Nat.le_of_ble_eq_true rfl) (mtX8_finding E l  (-1000003) M3) dX8_copy_65 rfl (fun r6 M5 _ => ?_)
            exact zz_iret dX8_copy_68
        · refine zz_sub (npc := 0) (lv1 := [(0, .ref (eA E 57))]) [0] rfl ?_
          exact zX8_copy_L39 E l  M3
    · refine zz_sub (npc := 0) (lv1 := [(0, .ref (eA E 57))]) [0] rfl ?_
      exact zX8_copy_L14 E l  M3
abbrev rmX8_load : Room := { frames := 2, cells := 0, slots := 0, locals := 43 }
theorem iX8_load_8 : ∀ w ∈ u_ws RX8 TX8 29, w ∈ wsX8_load := fun w h => List.mem_cons_of_mem _ (List.mem_append_right _ h)
noncomputable def fX8_load_L32   : Nat → Int32 → Int32 → Mem → Option (Int32 × Mem)
  | 0, _, _, _ => none
  | n + 1, y1, y2, M => (ck (inb y1 4) (if (M 70 (ix y1)) ≤ y2 then (some (y2, M)) else (bd (fX8_isPerson y2 M) fun r8 M7 => (if r8 = 0 then (some (y2, M7)) else (ck (inb ((40 * y1) + y2) 160) (bd (fX8_within (M7 71 (ix ((40 * y1) + y2))) 0 99 M7) fun r10 M9 => (if r10 = 0 then (some (y2, M9)) else (bd (fX8_at y2 1 M9) fun r12 M11 => (ck (inb ((40 * y1) + y2) 160) (ck (inb r12 56) (wm (wr M11 58 (ix r12) (M11 71 (ix ((40 * y1) + y2)))) fun M13 => (bv (y2 + 1) fun v14 => (fX8_load_L32  n y1 v14 M13)))))))))))))
set_option maxHeartbeats 4000000 in
set_option maxRecDepth 100000 in
theorem zX8_load_L32 (E : EV) (l : Launch)     : ∀ (n : Nat) (y1 : Int32) (y2 : Int32) (M : Mem), ZZ E l RX8 cX8_load 3 (some .int) wsX8_load rmX8_load vI (fX8_load_L32 n y1 y2 M) M [(0, .ref (eA E 57)), (1, .int y1), (2, .int y2)] 32 [] := by
  intro n
  induction n with
  | zero => intros; exact zz_none
  | succ n ih =>
    intro y1 y2 M
    rw [fX8_load_L32]
    refine zz_iload_n (npc := 33) 2 rfl rfl dX8_load_32 rfl ?_
    refine zz_aload_n (npc := 34) 0 rfl rfl dX8_load_33 rfl ?_
    refine zz_getR (npc := 37) (i := 26) (C0 := RX8) (T := TX8) (N := 29) (by decide) (by rfl) rfl (by decide) iX8_load_8 (List.mem_of_getElem? (i := 4) rfl) rfl dX8_load_34 rfl ?_
    refine zz_iload_n (npc := 38) 1 rfl rfl dX8_load_37 rfl ?_
    refine zz_iald (npc := 39) (by decide) (by rfl) dX8_load_38 rfl ?_
    refine zz_icmp_ge (tgt := 97) (npc := 42) dX8_load_39 (by decide) rfl ?_ ?_
    · refine zz_iload_n (npc := 98) 2 rfl rfl dX8_load_97 rfl ?_
      exact zz_iret dX8_load_98
    · refine zz_aload_n (npc := 43) 0 rfl rfl dX8_load_42 rfl ?_
      refine zz_iload_n (npc := 44) 2 rfl rfl dX8_load_43 rfl ?_
      refine zz_callVi (npc := 47) (n := 1) (As := [.int y2]) (by decide) (by rfl) rfl gX8_load_X8_isPerson rfl rfl rfl (by decide +kernel) ⟨Nat.le_of_ble_eq_true rfl, Nat.le_of_ble_eq_true rfl⟩ rfl rfl (Nat.le_of_ble_eq_true rfl) (mtX8_isPerson E l  y2 M) dX8_load_44 rfl (fun r8 M7 _ => ?_)
      refine zz_if_eq (tgt := 97) (npc := 50) dX8_load_47 (by decide) rfl ?_ ?_
      · refine zz_iload_n (npc := 98) 2 rfl rfl dX8_load_97 rfl ?_
        exact zz_iret dX8_load_98
      · refine zz_aload_n (npc := 51) 0 rfl rfl dX8_load_50 rfl ?_
        refine zz_getR (npc := 54) (i := 27) (C0 := RX8) (T := TX8) (N := 29) (by decide) (by rfl) rfl (by decide) iX8_load_8 (List.mem_of_getElem? (i := 5) rfl) rfl dX8_load_51 rfl ?_
        refine zz_bipush (npc := 56) 40 (by decide) dX8_load_54 rfl ?_
        refine zz_iload_n (npc := 57) 1 rfl rfl dX8_load_56 rfl ?_
        refine zz_imul (npc := 58) dX8_load_57 rfl ?_
        refine zz_iload_n (npc := 59) 2 rfl rfl dX8_load_58 rfl ?_
        refine zz_iadd (npc := 60) dX8_load_59 rfl ?_
        refine zz_iald (npc := 61) (by decide) (by rfl) dX8_load_60 rfl ?_
        refine zz_iconst (npc := 62) 0 (by decide) dX8_load_61 rfl ?_
        refine zz_bipush (npc := 64) 99 (by decide) dX8_load_62 rfl ?_
        refine zz_callSi (npc := 67) (n := 3) (As := [.int (M7 71 (ix ((40 * y1) + y2))), .int 0, .int 99]) gX8_load_X8_within rfl rfl rfl (by decide +kernel) ⟨Nat.le_of_ble_eq_true rfl, Nat.le_of_ble_eq_true rfl⟩ rfl rfl (Nat.le_of_ble_eq_true rfl) (mtX8_within E l  (M7 71 (ix ((40 * y1) + y2))) 0 99 M7) dX8_load_64 rfl (fun r10 M9 _ => ?_)
        refine zz_if_eq (tgt := 97) (npc := 70) dX8_load_67 (by decide) rfl ?_ ?_
        · refine zz_iload_n (npc := 98) 2 rfl rfl dX8_load_97 rfl ?_
          exact zz_iret dX8_load_98
        · refine zz_aload_n (npc := 71) 0 rfl rfl dX8_load_70 rfl ?_
          refine zz_getR (npc := 74) (i := 0) (C0 := RX8) (T := TX8) (N := 29) (by decide) (by rfl) rfl (by decide) iX8_load_8 (List.mem_of_getElem? (i := 6) rfl) rfl dX8_load_71 rfl ?_
          refine zz_iload_n (npc := 75) 2 rfl rfl dX8_load_74 rfl ?_
          refine zz_iconst (npc := 76) 1 (by decide) dX8_load_75 rfl ?_
          refine zz_callSi (npc := 79) (n := 2) (As := [.int y2, .int 1]) gX8_load_X8_at rfl rfl rfl (by decide +kernel) ⟨Nat.le_of_ble_eq_true rfl, Nat.le_of_ble_eq_true rfl⟩ rfl rfl (Nat.le_of_ble_eq_true rfl) (mtX8_at E l  y2 1 M9) dX8_load_76 rfl (fun r12 M11 _ => ?_)
          refine zz_aload_n (npc := 80) 0 rfl rfl dX8_load_79 rfl ?_
          refine zz_getR (npc := 83) (i := 27) (C0 := RX8) (T := TX8) (N := 29) (by decide) (by rfl) rfl (by decide) iX8_load_8 (List.mem_of_getElem? (i := 5) rfl) rfl dX8_load_80 rfl ?_
          refine zz_bipush (npc := 85) 40 (by decide) dX8_load_83 rfl ?_
          refine zz_iload_n (npc := 86) 1 rfl rfl dX8_load_85 rfl ?_
          refine zz_imul (npc := 87) dX8_load_86 rfl ?_
          refine zz_iload_n (npc := 88) 2 rfl rfl dX8_load_87 rfl ?_
          refine zz_iadd (npc := 89) dX8_load_88 rfl ?_
          refine zz_iald (npc := 90) (by decide) (by rfl) dX8_load_89 rfl ?_
          refine zz_iast (npc := 91) (by decide) (by rfl) dX8_load_90 rfl (fun M13 => ?_)
          refine zz_iincB (npc := 94) (y2 + 1) (lv1 := fun v14 => [(2, .int v14), (0, .ref (eA E 57)), (1, .int y1)]) dX8_load_91 rfl 2 rfl rfl (by decide) (fun _ => rfl) (fun v14 => ?_)
          refine zz_goto (npc := 0) (tgt := 32) dX8_load_94 (by decide) ?_
          refine zz_sub (npc := 0) (lv1 := [(0, .ref (eA E 57)), (1, .int y1), (2, .int v14)]) [1, 2, 0] rfl ?_
          exact ih y1 v14 M13
noncomputable def fX8_load  (x1 : Int32) (M : Mem) : Option (Int32 × Mem) := (bd (fX8_isSheet x1 M) fun r2 M1 => (if r2 = 0 then (bd (fX8_finding (-1000001) M1) fun r6 M5 => (some (r6, M5))) else (ck (inb x1 4) (if (M1 69 (ix x1)) = 0 then (bd (fX8_finding (-1000006) M1) fun r4 M3 => (some (r4, M3))) else (fX8_load_L32  fu x1 0 M1)))))
set_option maxHeartbeats 4000000 in
set_option maxRecDepth 100000 in
theorem mtX8_load (E : EV) (l : Launch)   (x1 : Int32) (M : Mem) : CT E l yX8_load wsX8_load rmX8_load vI [.ref (eA E 57), .int x1] (fX8_load x1 M) M := by
  refine ct_of (cc := cX8_load) (nL := 3) (ret := (some .int)) (by decide +kernel) rfl (Nat.le_of_ble_eq_true rfl) ?_
  show ZZ E l RX8 cX8_load 3 (some .int) wsX8_load rmX8_load vI (fX8_load x1 M) M [(0, .ref (eA E 57)), (1, .int x1)] 0 []
  unfold fX8_load
  refine zz_iload_n (npc := 1) 1 rfl rfl dX8_load_0 rfl ?_
  refine zz_callSi (npc := 4) (n := 1) (As := [.int x1]) gX8_load_X8_isSheet rfl rfl rfl (by decide +kernel) ⟨Nat.le_of_ble_eq_true rfl, Nat.le_of_ble_eq_true rfl⟩ rfl rfl (Nat.le_of_ble_eq_true rfl) (mtX8_isSheet E l  x1 M) dX8_load_1 rfl (fun r2 M1 _ => ?_)
  refine zz_if_ne (tgt := 14) (npc := 7) dX8_load_4 (by decide) rfl ?_ ?_
  · refine zz_aload_n (npc := 15) 0 rfl rfl dX8_load_14 rfl ?_
    refine zz_getR (npc := 18) (i := 25) (C0 := RX8) (T := TX8) (N := 29) (by decide) (by rfl) rfl (by decide) iX8_load_8 (List.mem_of_getElem? (i := 2) rfl) rfl dX8_load_15 rfl ?_
    refine zz_iload_n (npc := 19) 1 rfl rfl dX8_load_18 rfl ?_
    refine zz_iald (npc := 20) (by decide) (by rfl) dX8_load_19 rfl ?_
    refine zz_if_ne (tgt := 30) (npc := 23) dX8_load_20 (by decide) rfl ?_ ?_
    · refine zz_iconst (npc := 31) 0 (by decide) dX8_load_30 rfl ?_
      refine zz_istore_n (npc := 32) (lv1 := [(2, .int 0), (0, .ref (eA E 57)), (1, .int x1)]) rfl dX8_load_31 rfl (by decide) rfl ?_
      refine zz_sub (npc := 0) (lv1 := [(0, .ref (eA E 57)), (1, .int x1), (2, .int 0)]) [1, 2, 0] rfl ?_
      exact zX8_load_L32 E l  fu x1 0 M1
    · refine zz_aload_n (npc := 24) 0 rfl rfl dX8_load_23 rfl ?_
      refine zz_ldc (npc := 26) (-1000006) (List.mem_of_getElem? (i := 3) rfl) dX8_load_24 rfl ?_
      refine zz_callVi (npc := 29) (n := 1) (As := [.int (-1000006)]) (by decide) (by rfl) rfl gX8_load_X8_finding rfl rfl rfl (by decide +kernel) ⟨Nat.le_of_ble_eq_true rfl, Nat.le_of_ble_eq_true rfl⟩ rfl rfl (Nat.le_of_ble_eq_true rfl) (mtX8_finding E l  (-1000006) M1) dX8_load_26 rfl (fun r4 M3 _ => ?_)
      exact zz_iret dX8_load_29
  · refine zz_aload_n (npc := 8) 0 rfl rfl dX8_load_7 rfl ?_
    refine zz_ldc (npc := 10) (-1000001) (List.mem_of_getElem? (i := 1) rfl) dX8_load_8 rfl ?_
    refine zz_callVi (npc := 13) (n := 1) (As := [.int (-1000001)]) (by decide) (by rfl) rfl gX8_load_X8_finding rfl rfl rfl (by decide +kernel) ⟨Nat.le_of_ble_eq_true rfl, Nat.le_of_ble_eq_true rfl⟩ rfl rfl (Nat.le_of_ble_eq_true rfl) (mtX8_finding E l  (-1000001) M1) dX8_load_10 rfl (fun r6 M5 _ => ?_)
    exact zz_iret dX8_load_13
abbrev rmX8_judge : Room := { frames := 7, cells := 0, slots := 0, locals := 164 }
theorem iX8_judge_8 : ∀ w ∈ u_ws RX8 TX8 29, w ∈ wsX8_judge := fun w h => List.mem_cons_of_mem _ (List.mem_append_right _ h)
noncomputable def fX8_judge_L95  (k45 : Int32 → Int32 → Int32 → Mem → Option (Int32 × Mem)) (y1 : Int32) (y2 : Int32) (w0 : Int32) (M : Mem) : Option (Int32 × Mem) := (if w0 = 0 then (k45 y1 y2 w0 M) else (bd (fX8_hour M) fun _ M12 => (bv (y2 + 1) fun v13 => (k45 y1 v13 w0 M12))))
set_option maxHeartbeats 4000000 in
set_option maxRecDepth 100000 in
theorem zX8_judge_L95 (E : EV) (l : Launch)   (k45 : Int32 → Int32 → Int32 → Mem → Option (Int32 × Mem)) (hk45 : ∀ (y1_ : Int32) (y2_ : Int32) (y3_ : Int32) (M_ : Mem), ZZ E l RX8 cX8_judge 4 (some .int) wsX8_judge rmX8_judge vI (k45 y1_ y2_ y3_ M_) M_ [(0, .ref (eA E 57)), (1, .int y1_), (2, .int y2_), (3, .int y3_)] 45 []) : ∀ (y1 : Int32) (y2 : Int32) (w0 : Int32) (M : Mem), ZZ E l RX8 cX8_judge 4 (some .int) wsX8_judge rmX8_judge vI (fX8_judge_L95 k45 y1 y2 w0 M) M [(0, .ref (eA E 57)), (1, .int y1), (2, .int y2)] 95 [.int w0] := by
  intro y1 y2 w0 M
  unfold fX8_judge_L95
  refine zz_istore_n (npc := 96) (lv1 := [(3, .int w0), (0, .ref (eA E 57)), (1, .int y1), (2, .int y2)]) rfl dX8_judge_95 rfl (by decide) rfl ?_
  refine zz_iload_n (npc := 97) 0 rfl rfl dX8_judge_96 rfl ?_
  refine zz_if_eq (tgt := 45) (npc := 100) dX8_judge_97 (by decide) rfl ?_ ?_
  · refine zz_sub (npc := 0) (lv1 := [(0, .ref (eA E 57)), (1, .int y1), (2, .int y2), (3, .int w0)]) [1, 2, 3, 0] rfl ?_
    exact hk45 y1 y2 w0 M
  · refine zz_aload_n (npc := 101) 1 rfl rfl dX8_judge_100 rfl ?_
    refine zz_callVv (npc := 104) (n := 0) (As := []) (by decide) (by rfl) rfl gX8_judge_X8_hour rfl rfl rfl (by decide +kernel) ⟨Nat.le_of_ble_eq_true rfl, Nat.le_of_ble_eq_true rfl⟩ rfl rfl (Nat.le_of_ble_eq_true rfl) (mtX8_hour E l   M) dX8_judge_101 rfl (fun _ M12 _ => ?_)
    refine zz_iincB (npc := 107) (y2 + 1) (lv1 := fun v13 => [(2, .int v13), (3, .int w0), (0, .ref (eA E 57)), (1, .int y1)]) dX8_judge_104 rfl 3 rfl rfl (by decide) (fun _ => rfl) (fun v13 => ?_)
    refine zz_goto (npc := 0) (tgt := 45) dX8_judge_107 (by decide) ?_
    refine zz_sub (npc := 0) (lv1 := [(0, .ref (eA E 57)), (1, .int y1), (2, .int v13), (3, .int w0)]) [2, 3, 0, 1] rfl ?_
    exact hk45 y1 v13 w0 M12
noncomputable def fX8_judge_L94  (k45 : Int32 → Int32 → Int32 → Mem → Option (Int32 × Mem)) (y1 : Int32) (y2 : Int32) (M : Mem) : Option (Int32 × Mem) := (fX8_judge_L95 k45 y1 y2 0 M)
set_option maxHeartbeats 4000000 in
set_option maxRecDepth 100000 in
theorem zX8_judge_L94 (E : EV) (l : Launch)   (k45 : Int32 → Int32 → Int32 → Mem → Option (Int32 × Mem)) (hk45 : ∀ (y1_ : Int32) (y2_ : Int32) (y3_ : Int32) (M_ : Mem), ZZ E l RX8 cX8_judge 4 (some .int) wsX8_judge rmX8_judge vI (k45 y1_ y2_ y3_ M_) M_ [(0, .ref (eA E 57)), (1, .int y1_), (2, .int y2_), (3, .int y3_)] 45 []) : ∀ (y1 : Int32) (y2 : Int32) (M : Mem), ZZ E l RX8 cX8_judge 4 (some .int) wsX8_judge rmX8_judge vI (fX8_judge_L94 k45 y1 y2 M) M [(0, .ref (eA E 57)), (1, .int y1), (2, .int y2)] 94 [] := by
  intro y1 y2 M
  unfold fX8_judge_L94
  refine zz_iconst (npc := 95) 0 (by decide) dX8_judge_94 rfl ?_
  exact zX8_judge_L95 E l k45 hk45 y1 y2 0 M
noncomputable def fX8_judge_L122   (w0 : Int32) (M : Mem) : Option (Int32 × Mem) := (bd (fX8_putBack w0 M) fun r15 M14 => (some (r15, M14)))
set_option maxHeartbeats 4000000 in
set_option maxRecDepth 100000 in
theorem zX8_judge_L122 (E : EV) (l : Launch)     : ∀ (w0 : Int32) (M : Mem), ZZ E l RX8 cX8_judge 4 (some .int) wsX8_judge rmX8_judge vI (fX8_judge_L122 w0 M) M [] 122 [.int w0, .ref (eA E 57)] := by
  intro w0 M
  unfold fX8_judge_L122
  refine zz_callVi (npc := 125) (n := 1) (As := [.int w0]) (by decide) (by rfl) rfl gX8_judge_X8_putBack rfl rfl rfl (by decide +kernel) ⟨Nat.le_of_ble_eq_true rfl, Nat.le_of_ble_eq_true rfl⟩ rfl rfl (Nat.le_of_ble_eq_true rfl) (mtX8_putBack E l  w0 M) dX8_judge_122 rfl (fun r15 M14 _ => ?_)
  exact zz_iret dX8_judge_125
noncomputable def fX8_judge_L110   (y2 : Int32) (y3 : Int32) (M : Mem) : Option (Int32 × Mem) := (if y3 = 0 then (fX8_judge_L122  (1 + y2) M) else (fX8_judge_L122  0 M))
set_option maxHeartbeats 4000000 in
set_option maxRecDepth 100000 in
theorem zX8_judge_L110 (E : EV) (l : Launch)     : ∀ (y2 : Int32) (y3 : Int32) (M : Mem), ZZ E l RX8 cX8_judge 4 (some .int) wsX8_judge rmX8_judge vI (fX8_judge_L110 y2 y3 M) M [(0, .ref (eA E 57)), (2, .int y2), (3, .int y3)] 110 [] := by
  intro y2 y3 M
  unfold fX8_judge_L110
  refine zz_aload_n (npc := 111) 0 rfl rfl dX8_judge_110 rfl ?_
  refine zz_iload_n (npc := 112) 2 rfl rfl dX8_judge_111 rfl ?_
  refine zz_if_eq (tgt := 119) (npc := 115) dX8_judge_112 (by decide) rfl ?_ ?_
  · refine zz_iconst (npc := 120) 1 (by decide) dX8_judge_119 rfl ?_
    refine zz_iload_n (npc := 121) 1 rfl rfl dX8_judge_120 rfl ?_
    refine zz_iadd (npc := 122) dX8_judge_121 rfl ?_
    refine zz_sub (npc := 0) (lv1 := []) [] rfl ?_
    exact zX8_judge_L122 E l  (1 + y2) M
  · refine zz_iconst (npc := 116) 0 (by decide) dX8_judge_115 rfl ?_
    refine zz_goto (npc := 0) (tgt := 122) dX8_judge_116 (by decide) ?_
    refine zz_sub (npc := 0) (lv1 := []) [] rfl ?_
    exact zX8_judge_L122 E l  0 M
noncomputable def fX8_judge_L45   : Nat → Int32 → Int32 → Int32 → Mem → Option (Int32 × Mem)
  | 0, _, _, _, _ => none
  | n + 1, y1, y2, y3, M => (ck (inb y1 4) (if (M 70 (ix y1)) ≤ y2 then (fX8_judge_L110  y2 y3 M) else (if y3 = 0 then (fX8_judge_L110  y2 y3 M) else (bd (fX8_isOver M) fun r9 M8 => (if r9 = 0 then (ck (inb ((40 * y1) + y2) 160) (ck (inb 0 56) (bd (fX8_whoHave (M8 58 (ix 0)) M8) fun r11 M10 => (if (M8 71 (ix ((40 * y1) + y2))) = r11 then (fX8_judge_L95 (fX8_judge_L45  n) y1 y2 1 M10) else (fX8_judge_L94 (fX8_judge_L45  n) y1 y2 M10))))) else (fX8_judge_L94 (fX8_judge_L45  n) y1 y2 M8))))))
set_option maxHeartbeats 4000000 in
set_option maxRecDepth 100000 in
theorem zX8_judge_L45 (E : EV) (l : Launch)     : ∀ (n : Nat) (y1 : Int32) (y2 : Int32) (y3 : Int32) (M : Mem), ZZ E l RX8 cX8_judge 4 (some .int) wsX8_judge rmX8_judge vI (fX8_judge_L45 n y1 y2 y3 M) M [(0, .ref (eA E 57)), (1, .int y1), (2, .int y2), (3, .int y3)] 45 [] := by
  intro n
  induction n with
  | zero => intros; exact zz_none
  | succ n ih =>
    intro y1 y2 y3 M
    rw [fX8_judge_L45]
    refine zz_iload_n (npc := 46) 2 rfl rfl dX8_judge_45 rfl ?_
    refine zz_aload_n (npc := 47) 0 rfl rfl dX8_judge_46 rfl ?_
    refine zz_getR (npc := 50) (i := 26) (C0 := RX8) (T := TX8) (N := 29) (by decide) (by rfl) rfl (by decide) iX8_judge_8 (List.mem_of_getElem? (i := 6) rfl) rfl dX8_judge_47 rfl ?_
    refine zz_iload_n (npc := 51) 1 rfl rfl dX8_judge_50 rfl ?_
    refine zz_iald (npc := 52) (by decide) (by rfl) dX8_judge_51 rfl ?_
    refine zz_icmp_ge (tgt := 110) (npc := 55) dX8_judge_52 (by decide) rfl ?_ ?_
    · refine zz_sub (npc := 0) (lv1 := [(0, .ref (eA E 57)), (2, .int y2), (3, .int y3)]) [0, 2, 3] rfl ?_
      exact zX8_judge_L110 E l  y2 y3 M
    · refine zz_iload_n (npc := 56) 3 rfl rfl dX8_judge_55 rfl ?_
      refine zz_if_eq (tgt := 110) (npc := 59) dX8_judge_56 (by decide) rfl ?_ ?_
      · refine zz_sub (npc := 0) (lv1 := [(0, .ref (eA E 57)), (2, .int y2), (3, .int y3)]) [0, 2, 3] rfl ?_
        exact zX8_judge_L110 E l  y2 y3 M
      · refine zz_aload_n (npc := 60) 0 rfl rfl dX8_judge_59 rfl ?_
        refine zz_callVi (npc := 63) (n := 0) (As := []) (by decide) (by rfl) rfl gX8_judge_X8_isOver rfl rfl rfl (by decide +kernel) ⟨Nat.le_of_ble_eq_true rfl, Nat.le_of_ble_eq_true rfl⟩ rfl rfl (Nat.le_of_ble_eq_true rfl) (mtX8_isOver E l   M) dX8_judge_60 rfl (fun r9 M8 _ => ?_)
        refine zz_if_ne (tgt := 94) (npc := 66) dX8_judge_63 (by decide) rfl ?_ ?_
        · refine zz_sub (npc := 0) (lv1 := [(0, .ref (eA E 57)), (1, .int y1), (2, .int y2)]) [0, 1, 2] rfl ?_
          exact zX8_judge_L94 E l (fX8_judge_L45  n) ih y1 y2 M8
        · refine zz_aload_n (npc := 67) 0 rfl rfl dX8_judge_66 rfl ?_
          refine zz_getR (npc := 70) (i := 27) (C0 := RX8) (T := TX8) (N := 29) (by decide) (by rfl) rfl (by decide) iX8_judge_8 (List.mem_of_getElem? (i := 7) rfl) rfl dX8_judge_67 rfl ?_
          refine zz_bipush (npc := 72) 40 (by decide) dX8_judge_70 rfl ?_
          refine zz_iload_n (npc := 73) 1 rfl rfl dX8_judge_72 rfl ?_
          refine zz_imul (npc := 74) dX8_judge_73 rfl ?_
          refine zz_iload_n (npc := 75) 2 rfl rfl dX8_judge_74 rfl ?_
          refine zz_iadd (npc := 76) dX8_judge_75 rfl ?_
          refine zz_iald (npc := 77) (by decide) (by rfl) dX8_judge_76 rfl ?_
          refine zz_aload_n (npc := 78) 0 rfl rfl dX8_judge_77 rfl ?_
          refine zz_aload_n (npc := 79) 0 rfl rfl dX8_judge_78 rfl ?_
          refine zz_getR (npc := 82) (i := 0) (C0 := RX8) (T := TX8) (N := 29) (by decide) (by rfl) rfl (by decide) iX8_judge_8 (List.mem_of_getElem? (i := 4) rfl) rfl dX8_judge_79 rfl ?_
          refine zz_iconst (npc := 83) 0 (by decide) dX8_judge_82 rfl ?_
          refine zz_iald (npc := 84) (by decide) (by rfl) dX8_judge_83 rfl ?_
          refine zz_callVi (npc := 87) (n := 1) (As := [.int (M8 58 (ix 0))]) (by decide) (by rfl) rfl gX8_judge_X8_whoHave rfl rfl rfl (by decide +kernel) ⟨Nat.le_of_ble_eq_true rfl, Nat.le_of_ble_eq_true rfl⟩ rfl rfl (Nat.le_of_ble_eq_true rfl) (mtX8_whoHave E l  (M8 58 (ix 0)) M8) dX8_judge_84 rfl (fun r11 M10 _ => ?_)
          refine zz_icmp_ne (tgt := 94) (npc := 90) dX8_judge_87 (by decide) rfl ?_ ?_
          · refine zz_sub (npc := 0) (lv1 := [(0, .ref (eA E 57)), (1, .int y1), (2, .int y2)]) [0, 1, 2] rfl ?_
            exact zX8_judge_L94 E l (fX8_judge_L45  n) ih y1 y2 M10
          · refine zz_iconst (npc := 91) 1 (by decide) dX8_judge_90 rfl ?_
            refine zz_goto (npc := 0) (tgt := 95) dX8_judge_91 (by decide) ?_
            refine zz_sub (npc := 0) (lv1 := [(0, .ref (eA E 57)), (1, .int y1), (2, .int y2)]) [0, 1, 2] rfl ?_
            exact zX8_judge_L95 E l (fX8_judge_L45  n) ih y1 y2 1 M10
noncomputable def fX8_judge  (x1 : Int32) (M : Mem) : Option (Int32 × Mem) := (bd (fX8_isSheet x1 M) fun r2 M1 => (if r2 = 0 then (bd (fX8_finding (-1000001) M1) fun r7 M6 => (some (r7, M6))) else (ck (inb x1 4) (if (M1 69 (ix x1)) = 0 then (bd (fX8_finding (-1000006) M1) fun r5 M4 => (some (r5, M4))) else (bd (fX8_copyRow 58 60 M1) fun _ M3 => (fX8_judge_L45  fu x1 0 1 M3))))))
set_option maxHeartbeats 4000000 in
set_option maxRecDepth 100000 in
theorem mtX8_judge (E : EV) (l : Launch)   (x1 : Int32) (M : Mem) : CT E l yX8_judge wsX8_judge rmX8_judge vI [.ref (eA E 57), .int x1] (fX8_judge x1 M) M := by
  refine ct_of (cc := cX8_judge) (nL := 4) (ret := (some .int)) (by decide +kernel) rfl (Nat.le_of_ble_eq_true rfl) ?_
  show ZZ E l RX8 cX8_judge 4 (some .int) wsX8_judge rmX8_judge vI (fX8_judge x1 M) M [(0, .ref (eA E 57)), (1, .int x1)] 0 []
  unfold fX8_judge
  refine zz_iload_n (npc := 1) 1 rfl rfl dX8_judge_0 rfl ?_
  refine zz_callSi (npc := 4) (n := 1) (As := [.int x1]) gX8_judge_X8_isSheet rfl rfl rfl (by decide +kernel) ⟨Nat.le_of_ble_eq_true rfl, Nat.le_of_ble_eq_true rfl⟩ rfl rfl (Nat.le_of_ble_eq_true rfl) (mtX8_isSheet E l  x1 M) dX8_judge_1 rfl (fun r2 M1 _ => ?_)
  refine zz_if_ne (tgt := 14) (npc := 7) dX8_judge_4 (by decide) rfl ?_ ?_
  · refine zz_aload_n (npc := 15) 0 rfl rfl dX8_judge_14 rfl ?_
    refine zz_getR (npc := 18) (i := 25) (C0 := RX8) (T := TX8) (N := 29) (by decide) (by rfl) rfl (by decide) iX8_judge_8 (List.mem_of_getElem? (i := 2) rfl) rfl dX8_judge_15 rfl ?_
    refine zz_iload_n (npc := 19) 1 rfl rfl dX8_judge_18 rfl ?_
    refine zz_iald (npc := 20) (by decide) (by rfl) dX8_judge_19 rfl ?_
    refine zz_if_ne (tgt := 30) (npc := 23) dX8_judge_20 (by decide) rfl ?_ ?_
    · refine zz_aload_n (npc := 31) 0 rfl rfl dX8_judge_30 rfl ?_
      refine zz_getR (npc := 34) (i := 0) (C0 := RX8) (T := TX8) (N := 29) (by decide) (by rfl) rfl (by decide) iX8_judge_8 (List.mem_of_getElem? (i := 4) rfl) rfl dX8_judge_31 rfl ?_
      refine zz_aload_n (npc := 35) 0 rfl rfl dX8_judge_34 rfl ?_
      refine zz_getR (npc := 38) (i := 2) (C0 := RX8) (T := TX8) (N := 29) (by decide) (by rfl) rfl (by decide) iX8_judge_8 (List.mem_of_getElem? (i := 5) rfl) rfl dX8_judge_35 rfl ?_
      refine zz_callSv (npc := 41) (n := 2) (As := [.ref (eA E 58), .ref (eA E 60)]) gX8_judge_X8_copyRow rfl rfl rfl (by decide +kernel) ⟨Nat.le_of_ble_eq_true rfl, Nat.le_of_ble_eq_true rfl⟩ rfl rfl (Nat.le_of_ble_eq_true rfl) (mtX8_copyRow E l 58 60 ⟨(by decide), (by rfl)⟩ ⟨(by decide), (by rfl)⟩  M1) dX8_judge_38 rfl (fun _ M3 _ => ?_)
      refine zz_iconst (npc := 42) 0 (by decide) dX8_judge_41 rfl ?_
      refine zz_istore_n (npc := 43) (lv1 := [(2, .int 0), (0, .ref (eA E 57)), (1, .int x1)]) rfl dX8_judge_42 rfl (by decide) rfl ?_
      refine zz_iconst (npc := 44) 1 (by decide) dX8_judge_43 rfl ?_
      refine zz_istore_n (npc := 45) (lv1 := [(3, .int 1), (2, .int 0), (0, .ref (eA E 57)), (1, .int x1)]) rfl dX8_judge_44 rfl (by decide) rfl ?_
      refine zz_sub (npc := 0) (lv1 := [(0, .ref (eA E 57)), (1, .int x1), (2, .int 0), (3, .int 1)]) [2, 3, 1, 0] rfl ?_
      exact zX8_judge_L45 E l  fu x1 0 1 M3
    · refine zz_aload_n (npc := 24) 0 rfl rfl dX8_judge_23 rfl ?_
      refine zz_ldc (npc := 26) (-1000006) (List.mem_of_getElem? (i := 3) rfl) dX8_judge_24 rfl ?_
      refine zz_callVi (npc := 29) (n := 1) (As := [.int (-1000006)]) (by decide) (by rfl) rfl gX8_judge_X8_finding rfl rfl rfl (by decide +kernel) ⟨Nat.le_of_ble_eq_true rfl, Nat.le_of_ble_eq_true rfl⟩ rfl rfl (Nat.le_of_ble_eq_true rfl) (mtX8_finding E l  (-1000006) M1) dX8_judge_26 rfl (fun r5 M4 _ => ?_)
      exact zz_iret dX8_judge_29
  · refine zz_aload_n (npc := 8) 0 rfl rfl dX8_judge_7 rfl ?_
    refine zz_ldc (npc := 10) (-1000001) (List.mem_of_getElem? (i := 1) rfl) dX8_judge_8 rfl ?_
    refine zz_callVi (npc := 13) (n := 1) (As := [.int (-1000001)]) (by decide) (by rfl) rfl gX8_judge_X8_finding rfl rfl rfl (by decide +kernel) ⟨Nat.le_of_ble_eq_true rfl, Nat.le_of_ble_eq_true rfl⟩ rfl rfl (Nat.le_of_ble_eq_true rfl) (mtX8_finding E l  (-1000001) M1) dX8_judge_10 rfl (fun r7 M6 _ => ?_)
    exact zz_iret dX8_judge_13
abbrev rmX8_image : Room := { frames := 1, cells := 0, slots := 0, locals := 22 }
theorem iX8_image_8 : ∀ w ∈ u_ws RX8 TX8 29, w ∈ wsX8_image := fun w h => List.mem_cons_of_mem _ (List.mem_append_right _ h)
noncomputable def fX8_image   (M : Mem) : Option (Int32 × Mem) := (bd (fX8_copyRow 58 59 M) fun _ M1 => (ck (isb 1) (wm (wr M1 57 3 1) fun M2 => (some (1, M2)))))
set_option maxHeartbeats 4000000 in
set_option maxRecDepth 100000 in
theorem mtX8_image (E : EV) (l : Launch)    (M : Mem) : CT E l yX8_image wsX8_image rmX8_image vI [.ref (eA E 57)] (fX8_image  M) M := by
  refine ct_of (cc := cX8_image) (nL := 1) (ret := (some .int)) (by decide +kernel) rfl (Nat.le_of_ble_eq_true rfl) ?_
  show ZZ E l RX8 cX8_image 1 (some .int) wsX8_image rmX8_image vI (fX8_image  M) M [(0, .ref (eA E 57))] 0 []
  unfold fX8_image
  refine zz_aload_n (npc := 1) 0 rfl rfl dX8_image_0 rfl ?_
  refine zz_getR (npc := 4) (i := 0) (C0 := RX8) (T := TX8) (N := 29) (by decide) (by rfl) rfl (by decide) iX8_image_8 (List.mem_of_getElem? (i := 1) rfl) rfl dX8_image_1 rfl ?_
  refine zz_aload_n (npc := 5) 0 rfl rfl dX8_image_4 rfl ?_
  refine zz_getR (npc := 8) (i := 1) (C0 := RX8) (T := TX8) (N := 29) (by decide) (by rfl) rfl (by decide) iX8_image_8 (List.mem_of_getElem? (i := 2) rfl) rfl dX8_image_5 rfl ?_
  refine zz_callSv (npc := 11) (n := 2) (As := [.ref (eA E 58), .ref (eA E 59)]) gX8_image_X8_copyRow rfl rfl rfl (by decide +kernel) ⟨Nat.le_of_ble_eq_true rfl, Nat.le_of_ble_eq_true rfl⟩ rfl rfl (Nat.le_of_ble_eq_true rfl) (mtX8_copyRow E l 58 59 ⟨(by decide), (by rfl)⟩ ⟨(by decide), (by rfl)⟩  M) dX8_image_8 rfl (fun _ M1 _ => ?_)
  refine zz_aload_n (npc := 12) 0 rfl rfl dX8_image_11 rfl ?_
  refine zz_iconst (npc := 13) 1 (by decide) dX8_image_12 rfl ?_
  refine zz_putZ (npc := 16) (i := 3) (C0 := RX8) (T := TX8) (N := 29) (by decide) (by rfl) rfl (by decide) iX8_image_8 (List.mem_of_getElem? (i := 3) rfl) tyX8_ok nmX8 rfl rfl rfl dX8_image_13 rfl (fun M2 => ?_)
  refine zz_iconst (npc := 17) 1 (by decide) dX8_image_16 rfl ?_
  exact zz_iret dX8_image_17
abbrev rmX8_undo : Room := { frames := 1, cells := 0, slots := 0, locals := 22 }
theorem iX8_undo_8 : ∀ w ∈ u_ws RX8 TX8 29, w ∈ wsX8_undo := fun w h => List.mem_cons_of_mem _ (List.mem_append_right _ h)
noncomputable def fX8_undo   (M : Mem) : Option (Int32 × Mem) := (if (M 57 3) = 0 then (bd (fX8_finding (-1000004) M) fun r3 M2 => (some (r3, M2))) else (bd (fX8_copyRow 59 58 M) fun _ M1 => (ck (inb 0 56) (some (M1 58 (ix 0), M1)))))
set_option maxHeartbeats 4000000 in
set_option maxRecDepth 100000 in
theorem mtX8_undo (E : EV) (l : Launch)    (M : Mem) : CT E l yX8_undo wsX8_undo rmX8_undo vI [.ref (eA E 57)] (fX8_undo  M) M := by
  refine ct_of (cc := cX8_undo) (nL := 1) (ret := (some .int)) (by decide +kernel) rfl (Nat.le_of_ble_eq_true rfl) ?_
  show ZZ E l RX8 cX8_undo 1 (some .int) wsX8_undo rmX8_undo vI (fX8_undo  M) M [(0, .ref (eA E 57))] 0 []
  unfold fX8_undo
  refine zz_aload_n (npc := 1) 0 rfl rfl dX8_undo_0 rfl ?_
  refine zz_getI (npc := 4) (i := 3) (C0 := RX8) (T := TX8) (N := 29) (by decide) (by rfl) rfl (by decide) iX8_undo_8 (List.mem_of_getElem? (i := 1) rfl) rfl dX8_undo_1 rfl ?_
  refine zz_if_ne (tgt := 14) (npc := 7) dX8_undo_4 (by decide) rfl ?_ ?_
  · refine zz_aload_n (npc := 15) 0 rfl rfl dX8_undo_14 rfl ?_
    refine zz_getR (npc := 18) (i := 1) (C0 := RX8) (T := TX8) (N := 29) (by decide) (by rfl) rfl (by decide) iX8_undo_8 (List.mem_of_getElem? (i := 3) rfl) rfl dX8_undo_15 rfl ?_
    refine zz_aload_n (npc := 19) 0 rfl rfl dX8_undo_18 rfl ?_
    refine zz_getR (npc := 22) (i := 0) (C0 := RX8) (T := TX8) (N := 29) (by decide) (by rfl) rfl (by decide) iX8_undo_8 (List.mem_of_getElem? (i := 4) rfl) rfl dX8_undo_19 rfl ?_
    refine zz_callSv (npc := 25) (n := 2) (As := [.ref (eA E 59), .ref (eA E 58)]) gX8_undo_X8_copyRow rfl rfl rfl (by decide +kernel) ⟨Nat.le_of_ble_eq_true rfl, Nat.le_of_ble_eq_true rfl⟩ rfl rfl (Nat.le_of_ble_eq_true rfl) (mtX8_copyRow E l 59 58 ⟨(by decide), (by rfl)⟩ ⟨(by decide), (by rfl)⟩  M) dX8_undo_22 rfl (fun _ M1 _ => ?_)
    refine zz_aload_n (npc := 26) 0 rfl rfl dX8_undo_25 rfl ?_
    refine zz_getR (npc := 29) (i := 0) (C0 := RX8) (T := TX8) (N := 29) (by decide) (by rfl) rfl (by decide) iX8_undo_8 (List.mem_of_getElem? (i := 4) rfl) rfl dX8_undo_26 rfl ?_
    refine zz_iconst (npc := 30) 0 (by decide) dX8_undo_29 rfl ?_
    refine zz_iald (npc := 31) (by decide) (by rfl) dX8_undo_30 rfl ?_
    exact zz_iret dX8_undo_31
  · refine zz_aload_n (npc := 8) 0 rfl rfl dX8_undo_7 rfl ?_
    refine zz_ldc (npc := 10) (-1000004) (List.mem_of_getElem? (i := 2) rfl) dX8_undo_8 rfl ?_
    refine zz_callVi (npc := 13) (n := 1) (As := [.int (-1000004)]) (by decide) (by rfl) rfl gX8_undo_X8_finding rfl rfl rfl (by decide +kernel) ⟨Nat.le_of_ble_eq_true rfl, Nat.le_of_ble_eq_true rfl⟩ rfl rfl (Nat.le_of_ble_eq_true rfl) (mtX8_finding E l  (-1000004) M) dX8_undo_10 rfl (fun r3 M2 _ => ?_)
    exact zz_iret dX8_undo_13

abbrev rmJ6_bitCount_0f7a4 : Room := { frames := 0, cells := 0, slots := 0, locals := 0 }
noncomputable def fJ6_bitCount_0f7a4  (x1 : Int32) (M : Mem) : Option (Int32 × Mem) := (bv (x1 - ((ush x1 1) &&& 1431655765)) fun v1 => (bv ((v1 &&& 858993459) + ((ush v1 2) &&& 858993459)) fun v2 => (bv ((v2 + (ush v2 4)) &&& 252645135) fun v3 => (bv (v3 + (ush v3 8)) fun v4 => (bv (v4 + (ush v4 16)) fun v5 => (some (v5 &&& 63, M)))))))
set_option maxHeartbeats 4000000 in
set_option maxRecDepth 100000 in
theorem mtJ6_bitCount_0f7a4 (E : EV) (l : Launch)   (x1 : Int32) (M : Mem) : CT E l yJ6_bitCount_0f7a4 wsJ6_bitCount_0f7a4 rmJ6_bitCount_0f7a4 vI [.int x1] (fJ6_bitCount_0f7a4 x1 M) M := by
  refine ct_of (cc := cJ6_bitCount_0f7a4) (nL := 1) (ret := (some .int)) (by decide +kernel) rfl (Nat.le_of_ble_eq_true rfl) ?_
  show ZZ E l RJ6 cJ6_bitCount_0f7a4 1 (some .int) wsJ6_bitCount_0f7a4 rmJ6_bitCount_0f7a4 vI (fJ6_bitCount_0f7a4 x1 M) M [(0, .int x1)] 0 []
  unfold fJ6_bitCount_0f7a4
  refine zz_iload_n (npc := 1) 0 rfl rfl dJ6_bitCount_0f7a4_0 rfl ?_
  refine zz_iload_n (npc := 2) 0 rfl rfl dJ6_bitCount_0f7a4_1 rfl ?_
  refine zz_iconst (npc := 3) 1 (by decide) dJ6_bitCount_0f7a4_2 rfl ?_
  refine zz_iushr (npc := 4) dJ6_bitCount_0f7a4_3 rfl ?_
  refine zz_ldcw (npc := 7) 1431655765 (List.mem_of_getElem? (i := 1) rfl) dJ6_bitCount_0f7a4_4 rfl ?_
  refine zz_iand (npc := 8) dJ6_bitCount_0f7a4_7 rfl ?_
  refine zz_isub (npc := 9) dJ6_bitCount_0f7a4_8 rfl ?_
  refine zz_istore_nB (npc := 10) (lv1 := fun v1 => [(0, .int v1)]) rfl dJ6_bitCount_0f7a4_9 rfl (by decide) (fun _ => rfl) (fun v1 => ?_)
  refine zz_iload_n (npc := 11) 0 rfl rfl dJ6_bitCount_0f7a4_10 rfl ?_
  refine zz_ldcw (npc := 14) 858993459 (List.mem_of_getElem? (i := 2) rfl) dJ6_bitCount_0f7a4_11 rfl ?_
  refine zz_iand (npc := 15) dJ6_bitCount_0f7a4_14 rfl ?_
  refine zz_iload_n (npc := 16) 0 rfl rfl dJ6_bitCount_0f7a4_15 rfl ?_
  refine zz_iconst (npc := 17) 2 (by decide) dJ6_bitCount_0f7a4_16 rfl ?_
  refine zz_iushr (npc := 18) dJ6_bitCount_0f7a4_17 rfl ?_
  refine zz_ldcw (npc := 21) 858993459 (List.mem_of_getElem? (i := 2) rfl) dJ6_bitCount_0f7a4_18 rfl ?_
  refine zz_iand (npc := 22) dJ6_bitCount_0f7a4_21 rfl ?_
  refine zz_iadd (npc := 23) dJ6_bitCount_0f7a4_22 rfl ?_
  refine zz_istore_nB (npc := 24) (lv1 := fun v2 => [(0, .int v2)]) rfl dJ6_bitCount_0f7a4_23 rfl (by decide) (fun _ => rfl) (fun v2 => ?_)
  refine zz_iload_n (npc := 25) 0 rfl rfl dJ6_bitCount_0f7a4_24 rfl ?_
  refine zz_iload_n (npc := 26) 0 rfl rfl dJ6_bitCount_0f7a4_25 rfl ?_
  refine zz_iconst (npc := 27) 4 (by decide) dJ6_bitCount_0f7a4_26 rfl ?_
  refine zz_iushr (npc := 28) dJ6_bitCount_0f7a4_27 rfl ?_
  refine zz_iadd (npc := 29) dJ6_bitCount_0f7a4_28 rfl ?_
  refine zz_ldcw (npc := 32) 252645135 (List.mem_of_getElem? (i := 3) rfl) dJ6_bitCount_0f7a4_29 rfl ?_
  refine zz_iand (npc := 33) dJ6_bitCount_0f7a4_32 rfl ?_
  refine zz_istore_nB (npc := 34) (lv1 := fun v3 => [(0, .int v3)]) rfl dJ6_bitCount_0f7a4_33 rfl (by decide) (fun _ => rfl) (fun v3 => ?_)
  refine zz_iload_n (npc := 35) 0 rfl rfl dJ6_bitCount_0f7a4_34 rfl ?_
  refine zz_iload_n (npc := 36) 0 rfl rfl dJ6_bitCount_0f7a4_35 rfl ?_
  refine zz_bipush (npc := 38) 8 (by decide) dJ6_bitCount_0f7a4_36 rfl ?_
  refine zz_iushr (npc := 39) dJ6_bitCount_0f7a4_38 rfl ?_
  refine zz_iadd (npc := 40) dJ6_bitCount_0f7a4_39 rfl ?_
  refine zz_istore_nB (npc := 41) (lv1 := fun v4 => [(0, .int v4)]) rfl dJ6_bitCount_0f7a4_40 rfl (by decide) (fun _ => rfl) (fun v4 => ?_)
  refine zz_iload_n (npc := 42) 0 rfl rfl dJ6_bitCount_0f7a4_41 rfl ?_
  refine zz_iload_n (npc := 43) 0 rfl rfl dJ6_bitCount_0f7a4_42 rfl ?_
  refine zz_bipush (npc := 45) 16 (by decide) dJ6_bitCount_0f7a4_43 rfl ?_
  refine zz_iushr (npc := 46) dJ6_bitCount_0f7a4_45 rfl ?_
  refine zz_iadd (npc := 47) dJ6_bitCount_0f7a4_46 rfl ?_
  refine zz_istore_nB (npc := 48) (lv1 := fun v5 => [(0, .int v5)]) rfl dJ6_bitCount_0f7a4_47 rfl (by decide) (fun _ => rfl) (fun v5 => ?_)
  refine zz_iload_n (npc := 49) 0 rfl rfl dJ6_bitCount_0f7a4_48 rfl ?_
  refine zz_bipush (npc := 51) 63 (by decide) dJ6_bitCount_0f7a4_49 rfl ?_
  refine zz_iand (npc := 52) dJ6_bitCount_0f7a4_51 rfl ?_
  exact zz_iret dJ6_bitCount_0f7a4_52
abbrev rmJ0_coder_7d493 : Room := { frames := 0, cells := 0, slots := 0, locals := 0 }
noncomputable def fJ0_coder_7d493 (b : Nat)  (M : Mem) : Option (Int32 × Mem) := (if (1 : Int32) = 0 then (ck (isb 1) (some (1, M))) else (ck (isb 0) (some (0, M))))
set_option maxHeartbeats 4000000 in
set_option maxRecDepth 100000 in
theorem mtJ0_coder_7d493 (E : EV) (l : Launch) (b : Nat) (hb : b < NS)  (M : Mem) : CT E l yJ0_coder_7d493 wsJ0_coder_7d493 rmJ0_coder_7d493 vI [.ref (eK E b)] (fJ0_coder_7d493 b M) M := by
  refine ct_of (cc := cJ0_coder_7d493) (nL := 1) (ret := (some .byte)) (by decide +kernel) rfl (Nat.le_of_ble_eq_true rfl) ?_
  show ZZ E l RJ0 cJ0_coder_7d493 1 (some .byte) wsJ0_coder_7d493 rmJ0_coder_7d493 vI (fJ0_coder_7d493 b M) M [(0, .ref (eK E b))] 0 []
  unfold fJ0_coder_7d493
  refine zz_comp (npc := 3) (List.mem_of_getElem? (i := 1) rfl) dJ0_coder_7d493_0 rfl ?_
  refine zz_if_eq (tgt := 13) (npc := 6) dJ0_coder_7d493_3 (by decide) rfl ?_ ?_
  · refine zz_iconst (npc := 14) 1 (by decide) dJ0_coder_7d493_13 rfl ?_
    exact zz_bret dJ0_coder_7d493_14
  · refine zz_aload_n (npc := 7) 0 rfl rfl dJ0_coder_7d493_6 rfl ?_
    refine zz_getSC (npc := 10) hb (List.mem_of_getElem? (i := 2) rfl) dJ0_coder_7d493_7 rfl ?_
    refine zz_goto (npc := 0) (tgt := 14) dJ0_coder_7d493_10 (by decide) ?_
    exact zz_bret dJ0_coder_7d493_14
abbrev rmJ0_length_8abf5 : Room := { frames := 1, cells := 0, slots := 0, locals := 20 }
noncomputable def fJ0_length_8abf5 (b : Nat)  (M : Mem) : Option (Int32 × Mem) := (bd (fJ0_coder_7d493 b M) fun r2 M1 => (some (shr (slN b) r2, M1)))
set_option maxHeartbeats 4000000 in
set_option maxRecDepth 100000 in
theorem mtJ0_length_8abf5 (E : EV) (l : Launch) (b : Nat) (hb : b < NS)  (M : Mem) : CT E l yJ0_length_8abf5 wsJ0_length_8abf5 rmJ0_length_8abf5 vI [.ref (eK E b)] (fJ0_length_8abf5 b M) M := by
  refine ct_of (cc := cJ0_length_8abf5) (nL := 1) (ret := (some .int)) (by decide +kernel) rfl (Nat.le_of_ble_eq_true rfl) ?_
  show ZZ E l RJ0 cJ0_length_8abf5 1 (some .int) wsJ0_length_8abf5 rmJ0_length_8abf5 vI (fJ0_length_8abf5 b M) M [(0, .ref (eK E b))] 0 []
  unfold fJ0_length_8abf5
  refine zz_aload_n (npc := 1) 0 rfl rfl dJ0_length_8abf5_0 rfl ?_
  refine zz_getSV (npc := 4) hb (List.mem_of_getElem? (i := 1) rfl) dJ0_length_8abf5_1 rfl ?_
  refine zz_tlen (npc := 5) hb dJ0_length_8abf5_4 rfl ?_
  refine zz_aload_n (npc := 6) 0 rfl rfl dJ0_length_8abf5_5 rfl ?_
  refine zz_callTi (npc := 9) (n := 0) (As := []) hb rfl gJ0_length_8abf5_J0_coder_7d493 rfl rfl rfl (by decide +kernel) ⟨Nat.le_of_ble_eq_true rfl, Nat.le_of_ble_eq_true rfl⟩ rfl rfl (Nat.le_of_ble_eq_true rfl) (mtJ0_coder_7d493 E l b hb  M) dJ0_length_8abf5_6 rfl (fun r2 M1 _ => ?_)
  refine zz_ishr (npc := 10) dJ0_length_8abf5_9 rfl ?_
  exact zz_iret dJ0_length_8abf5_10
abbrev rmJ0_isLatin1_aae02 : Room := { frames := 0, cells := 0, slots := 0, locals := 0 }
noncomputable def fJ0_isLatin1_aae02 (b : Nat)  (M : Mem) : Option (Int32 × Mem) := (if (1 : Int32) = 0 then (ck (isb 0) (some (0, M))) else (if (0 : Int32) = 0 then (ck (isb 1) (some (1, M))) else (ck (isb 0) (some (0, M)))))
set_option maxHeartbeats 4000000 in
set_option maxRecDepth 100000 in
theorem mtJ0_isLatin1_aae02 (E : EV) (l : Launch) (b : Nat) (hb : b < NS)  (M : Mem) : CT E l yJ0_isLatin1_aae02 wsJ0_isLatin1_aae02 rmJ0_isLatin1_aae02 vI [.ref (eK E b)] (fJ0_isLatin1_aae02 b M) M := by
  refine ct_of (cc := cJ0_isLatin1_aae02) (nL := 1) (ret := (some .boolean)) (by decide +kernel) rfl (Nat.le_of_ble_eq_true rfl) ?_
  show ZZ E l RJ0 cJ0_isLatin1_aae02 1 (some .boolean) wsJ0_isLatin1_aae02 rmJ0_isLatin1_aae02 vI (fJ0_isLatin1_aae02 b M) M [(0, .ref (eK E b))] 0 []
  unfold fJ0_isLatin1_aae02
  refine zz_comp (npc := 3) (List.mem_of_getElem? (i := 1) rfl) dJ0_isLatin1_aae02_0 rfl ?_
  refine zz_if_eq (tgt := 17) (npc := 6) dJ0_isLatin1_aae02_3 (by decide) rfl ?_ ?_
  · refine zz_iconst (npc := 18) 0 (by decide) dJ0_isLatin1_aae02_17 rfl ?_
    exact zz_zret dJ0_isLatin1_aae02_18
  · refine zz_aload_n (npc := 7) 0 rfl rfl dJ0_isLatin1_aae02_6 rfl ?_
    refine zz_getSC (npc := 10) hb (List.mem_of_getElem? (i := 2) rfl) dJ0_isLatin1_aae02_7 rfl ?_
    refine zz_if_ne (tgt := 17) (npc := 13) dJ0_isLatin1_aae02_10 (by decide) rfl ?_ ?_
    · refine zz_iconst (npc := 18) 0 (by decide) dJ0_isLatin1_aae02_17 rfl ?_
      exact zz_zret dJ0_isLatin1_aae02_18
    · refine zz_iconst (npc := 14) 1 (by decide) dJ0_isLatin1_aae02_13 rfl ?_
      refine zz_goto (npc := 0) (tgt := 18) dJ0_isLatin1_aae02_14 (by decide) ?_
      exact zz_zret dJ0_isLatin1_aae02_18
abbrev rmJ3_checkIndex_8e157 : Room := { frames := 0, cells := 0, slots := 0, locals := 0 }
noncomputable def fJ3_checkIndex_8e157  (x1 : Int32) (x2 : Int32) (M : Mem) : Option (Int32 × Mem) := (if x1 < 0 then none else (if x1 < x2 then (some (x1, M)) else none))
set_option maxHeartbeats 4000000 in
set_option maxRecDepth 100000 in
theorem mtJ3_checkIndex_8e157 (E : EV) (l : Launch)  (d3 : Option Nat) (x1 : Int32) (x2 : Int32) (M : Mem) : CT E l yJ3_checkIndex_8e157 wsJ3_checkIndex_8e157 rmJ3_checkIndex_8e157 vI [.int x1, .int x2, (va_rf d3)] (fJ3_checkIndex_8e157 x1 x2 M) M := by
  refine ct_of (cc := cJ3_checkIndex_8e157) (nL := 3) (ret := (some .int)) (by decide +kernel) rfl (by cases d3 <;> exact Nat.le_of_ble_eq_true rfl) ?_
  show ZZ E l RJ3 cJ3_checkIndex_8e157 3 (some .int) wsJ3_checkIndex_8e157 rmJ3_checkIndex_8e157 vI (fJ3_checkIndex_8e157 x1 x2 M) M [(0, .int x1), (1, .int x2), (2, (va_rf d3))] 0 []
  unfold fJ3_checkIndex_8e157
  refine zz_iload_n (npc := 1) 0 rfl rfl dJ3_checkIndex_8e157_0 rfl ?_
  refine zz_if_lt (tgt := 9) (npc := 4) dJ3_checkIndex_8e157_1 (by decide) rfl ?_ ?_
  · exact zz_none
  · refine zz_iload_n (npc := 5) 0 rfl rfl dJ3_checkIndex_8e157_4 rfl ?_
    refine zz_iload_n (npc := 6) 1 rfl rfl dJ3_checkIndex_8e157_5 rfl ?_
    refine zz_icmp_lt (tgt := 16) (npc := 9) dJ3_checkIndex_8e157_6 (by decide) rfl ?_ ?_
    · refine zz_iload_n (npc := 17) 0 rfl rfl dJ3_checkIndex_8e157_16 rfl ?_
      exact zz_iret dJ3_checkIndex_8e157_17
    · exact zz_none
abbrev rmJ0_checkIndex_df160 : Room := { frames := 1, cells := 0, slots := 0, locals := 22 }
noncomputable def fJ0_checkIndex_df160  (x1 : Int32) (x2 : Int32) (M : Mem) : Option (Unit × Mem) := (bd (fJ3_checkIndex_8e157 x1 x2 M) fun r3 M2 => (some ((), M2)))
set_option maxHeartbeats 4000000 in
set_option maxRecDepth 100000 in
theorem mtJ0_checkIndex_df160 (E : EV) (l : Launch)   (x1 : Int32) (x2 : Int32) (M : Mem) : CT E l yJ0_checkIndex_df160 wsJ0_checkIndex_df160 rmJ0_checkIndex_df160 vV [.int x1, .int x2] (fJ0_checkIndex_df160 x1 x2 M) M := by
  refine ct_of (cc := cJ0_checkIndex_df160) (nL := 2) (ret := none) (by decide +kernel) rfl (Nat.le_of_ble_eq_true rfl) ?_
  show ZZ E l RJ0 cJ0_checkIndex_df160 2 none wsJ0_checkIndex_df160 rmJ0_checkIndex_df160 vV (fJ0_checkIndex_df160 x1 x2 M) M [(0, .int x1), (1, .int x2)] 0 []
  unfold fJ0_checkIndex_df160
  refine zz_iload_n (npc := 1) 0 rfl rfl dJ0_checkIndex_df160_0 rfl ?_
  refine zz_iload_n (npc := 2) 1 rfl rfl dJ0_checkIndex_df160_1 rfl ?_
  refine zz_sio (npc := 5) (List.mem_of_getElem? (i := 1) rfl) dJ0_checkIndex_df160_2 rfl (fun q1 => ?_)
  refine zz_callSi (npc := 8) (n := 3) (As := [.int x1, .int x2, (va_rf q1)]) gJ0_checkIndex_df160_J3_checkIndex_8e157 rfl rfl rfl (by decide +kernel) ⟨Nat.le_of_ble_eq_true rfl, Nat.le_of_ble_eq_true rfl⟩ rfl rfl (Nat.le_of_ble_eq_true rfl) (mtJ3_checkIndex_8e157 E l q1 x1 x2 M) dJ0_checkIndex_df160_5 rfl (fun r3 M2 _ => ?_)
  refine zz_pop (npc := 9) rfl dJ0_checkIndex_df160_8 rfl ?_
  exact zz_vret dJ0_checkIndex_df160_9
abbrev rmJ1_charAt_3b067 : Room := { frames := 2, cells := 0, slots := 0, locals := 43 }
noncomputable def fJ1_charAt_3b067 (d1 : Nat) (x2 : Int32) (M : Mem) : Option (Int32 × Mem) := (bd (fJ0_checkIndex_df160 x2 (slN d1) M) fun _ M1 => (ck (inb x2 (slen.getD d1 0)) (ck (isc (i2c ((sby d1 (ix x2)) &&& 255))) (some (i2c ((sby d1 (ix x2)) &&& 255), M1)))))
set_option maxHeartbeats 4000000 in
set_option maxRecDepth 100000 in
theorem mtJ1_charAt_3b067 (E : EV) (l : Launch) (d1 : Nat) (hd1 : d1 < NS) (x2 : Int32) (M : Mem) : CT E l yJ1_charAt_3b067 wsJ1_charAt_3b067 rmJ1_charAt_3b067 vI [.ref (eV E d1), .int x2] (fJ1_charAt_3b067 d1 x2 M) M := by
  refine ct_of (cc := cJ1_charAt_3b067) (nL := 2) (ret := (some .char)) (by decide +kernel) rfl (Nat.le_of_ble_eq_true rfl) ?_
  show ZZ E l RJ1 cJ1_charAt_3b067 2 (some .char) wsJ1_charAt_3b067 rmJ1_charAt_3b067 vI (fJ1_charAt_3b067 d1 x2 M) M [(0, .ref (eV E d1)), (1, .int x2)] 0 []
  unfold fJ1_charAt_3b067
  refine zz_iload_n (npc := 1) 1 rfl rfl dJ1_charAt_3b067_0 rfl ?_
  refine zz_aload_n (npc := 2) 0 rfl rfl dJ1_charAt_3b067_1 rfl ?_
  refine zz_tlen (npc := 3) hd1 dJ1_charAt_3b067_2 rfl ?_
  refine zz_callSv (npc := 6) (n := 2) (As := [.int x2, .int (slN d1)]) gJ1_charAt_3b067_J0_checkIndex_df160 rfl rfl rfl (by decide +kernel) ⟨Nat.le_of_ble_eq_true rfl, Nat.le_of_ble_eq_true rfl⟩ rfl rfl (Nat.le_of_ble_eq_true rfl) (mtJ0_checkIndex_df160 E l  x2 (slN d1) M) dJ1_charAt_3b067_3 rfl (fun _ M1 _ => ?_)
  refine zz_aload_n (npc := 7) 0 rfl rfl dJ1_charAt_3b067_6 rfl ?_
  refine zz_iload_n (npc := 8) 1 rfl rfl dJ1_charAt_3b067_7 rfl ?_
  refine zz_tbl (npc := 9) hd1 dJ1_charAt_3b067_8 rfl ?_
  refine zz_sipush (npc := 12) 255 (by decide) dJ1_charAt_3b067_9 rfl ?_
  refine zz_iand (npc := 13) dJ1_charAt_3b067_12 rfl ?_
  refine zz_i2c (npc := 14) dJ1_charAt_3b067_13 rfl ?_
  exact zz_cret dJ1_charAt_3b067_14
abbrev rmJ0_charAt_5068e : Room := { frames := 3, cells := 0, slots := 0, locals := 64 }
noncomputable def fJ0_charAt_5068e (b : Nat) (x1 : Int32) (M : Mem) : Option (Int32 × Mem) := (bd (fJ0_isLatin1_aae02 b M) fun r2 M1 => (if r2 = 0 then none else (bd (fJ1_charAt_3b067 b x1 M1) fun r4 M3 => (ck (isc r4) (some (r4, M3))))))
set_option maxHeartbeats 4000000 in
set_option maxRecDepth 100000 in
theorem mtJ0_charAt_5068e (E : EV) (l : Launch) (b : Nat) (hb : b < NS) (x1 : Int32) (M : Mem) : CT E l yJ0_charAt_5068e wsJ0_charAt_5068e rmJ0_charAt_5068e vI [.ref (eK E b), .int x1] (fJ0_charAt_5068e b x1 M) M := by
  refine ct_of (cc := cJ0_charAt_5068e) (nL := 2) (ret := (some .char)) (by decide +kernel) rfl (Nat.le_of_ble_eq_true rfl) ?_
  show ZZ E l RJ0 cJ0_charAt_5068e 2 (some .char) wsJ0_charAt_5068e rmJ0_charAt_5068e vI (fJ0_charAt_5068e b x1 M) M [(0, .ref (eK E b)), (1, .int x1)] 0 []
  unfold fJ0_charAt_5068e
  refine zz_aload_n (npc := 1) 0 rfl rfl dJ0_charAt_5068e_0 rfl ?_
  refine zz_callTi (npc := 4) (n := 0) (As := []) hb rfl gJ0_charAt_5068e_J0_isLatin1_aae02 rfl rfl rfl (by decide +kernel) ⟨Nat.le_of_ble_eq_true rfl, Nat.le_of_ble_eq_true rfl⟩ rfl rfl (Nat.le_of_ble_eq_true rfl) (mtJ0_isLatin1_aae02 E l b hb  M) dJ0_charAt_5068e_1 rfl (fun r2 M1 _ => ?_)
  refine zz_if_eq (tgt := 16) (npc := 7) dJ0_charAt_5068e_4 (by decide) rfl ?_ ?_
  · refine zz_aload_n (npc := 17) 0 rfl rfl dJ0_charAt_5068e_16 rfl ?_
    refine zz_getSV (npc := 20) hb (List.mem_of_getElem? (i := 1) rfl) dJ0_charAt_5068e_17 rfl ?_
    refine zz_iload_n (npc := 21) 1 rfl rfl dJ0_charAt_5068e_20 rfl ?_
    exact zz_none
  · refine zz_aload_n (npc := 8) 0 rfl rfl dJ0_charAt_5068e_7 rfl ?_
    refine zz_getSV (npc := 11) hb (List.mem_of_getElem? (i := 1) rfl) dJ0_charAt_5068e_8 rfl ?_
    refine zz_iload_n (npc := 12) 1 rfl rfl dJ0_charAt_5068e_11 rfl ?_
    refine zz_callSi (npc := 15) (n := 2) (As := [.ref (eV E b), .int x1]) gJ0_charAt_5068e_J1_charAt_3b067 rfl rfl rfl (by decide +kernel) ⟨Nat.le_of_ble_eq_true rfl, Nat.le_of_ble_eq_true rfl⟩ rfl rfl (Nat.le_of_ble_eq_true rfl) (mtJ1_charAt_3b067 E l b hb x1 M1) dJ0_charAt_5068e_12 rfl (fun r4 M3 _ => ?_)
    exact zz_cret dJ0_charAt_5068e_15

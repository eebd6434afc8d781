abbrev rmX6_byteAt : Room := { frames := 0, cells := 0, slots := 0, locals := 0 }
theorem iX6_byteAt_6 : ∀ w ∈ u_ws RX6 TX6 2, w ∈ wsX6_byteAt := fun w h => List.mem_cons_of_mem _ (List.mem_append_right _ h)
noncomputable def fX6_byteAt  (x1 : Int32) (M : Mem) : Option (Int32 × Mem) := (if x1 < 0 then (some ((-1), M)) else (if (M 34 1) ≤ x1 then (some ((-1), M)) else (ck (inb x1 120) (some (M 35 (ix x1), M)))))
set_option maxHeartbeats 4000000 in
set_option maxRecDepth 100000 in
theorem mtX6_byteAt (E : EV) (l : Launch)   (x1 : Int32) (M : Mem) : CT E l yX6_byteAt wsX6_byteAt rmX6_byteAt vI [.ref (eA E 34), .int x1] (fX6_byteAt x1 M) M := by
  refine ct_of (cc := cX6_byteAt) (nL := 2) (ret := (some .int)) (by decide +kernel) rfl (Nat.le_of_ble_eq_true rfl) ?_
  show ZZ E l RX6 cX6_byteAt 2 (some .int) wsX6_byteAt rmX6_byteAt vI (fX6_byteAt x1 M) M [(0, .ref (eA E 34)), (1, .int x1)] 0 []
  unfold fX6_byteAt
  refine zz_iload_n (npc := 1) 1 rfl rfl dX6_byteAt_0 rfl ?_
  refine zz_if_lt (tgt := 21) (npc := 4) dX6_byteAt_1 (by decide) rfl ?_ ?_
  · refine zz_iconst (npc := 22) (-1) (by decide) dX6_byteAt_21 rfl ?_
    exact zz_iret dX6_byteAt_22
  · refine zz_iload_n (npc := 5) 1 rfl rfl dX6_byteAt_4 rfl ?_
    refine zz_aload_n (npc := 6) 0 rfl rfl dX6_byteAt_5 rfl ?_
    refine zz_getI (npc := 9) (i := 1) (C0 := RX6) (T := TX6) (N := 2) (by decide) (by rfl) rfl (by decide) iX6_byteAt_6 (List.mem_of_getElem? (i := 1) rfl) rfl dX6_byteAt_6 rfl ?_
    refine zz_icmp_ge (tgt := 21) (npc := 12) dX6_byteAt_9 (by decide) rfl ?_ ?_
    · refine zz_iconst (npc := 22) (-1) (by decide) dX6_byteAt_21 rfl ?_
      exact zz_iret dX6_byteAt_22
    · refine zz_aload_n (npc := 13) 0 rfl rfl dX6_byteAt_12 rfl ?_
      refine zz_getR (npc := 16) (i := 0) (C0 := RX6) (T := TX6) (N := 2) (by decide) (by rfl) rfl (by decide) iX6_byteAt_6 (List.mem_of_getElem? (i := 2) rfl) rfl dX6_byteAt_13 rfl ?_
      refine zz_iload_n (npc := 17) 1 rfl rfl dX6_byteAt_16 rfl ?_
      refine zz_iald (npc := 18) (by decide) (by rfl) dX6_byteAt_17 rfl ?_
      refine zz_goto (npc := 0) (tgt := 22) dX6_byteAt_18 (by decide) ?_
      exact zz_iret dX6_byteAt_22
abbrev rmX5_isMissing : Room := { frames := 0, cells := 0, slots := 0, locals := 0 }
theorem iX5_isMissing_5 : ∀ w ∈ u_ws RX5 TX5 3, w ∈ wsX5_isMissing := fun w h => List.mem_cons_of_mem _ (List.mem_append_right _ h)
noncomputable def fX5_isMissing (b : Nat)  (M : Mem) : Option (Int32 × Mem) := (if (M b 1) = 0 then (ck (isb 1) (some (1, M))) else (ck (isb 0) (some (0, M))))
set_option maxHeartbeats 4000000 in
set_option maxRecDepth 100000 in
theorem mtX5_isMissing (E : EV) (l : Launch) (b : Nat) (hb : isSh b)  (M : Mem) : CT E l yX5_isMissing wsX5_isMissing rmX5_isMissing vI [.ref (eA E b)] (fX5_isMissing b M) M := by
  refine ct_of (cc := cX5_isMissing) (nL := 1) (ret := (some .boolean)) (by decide +kernel) rfl (Nat.le_of_ble_eq_true rfl) ?_
  show ZZ E l RX5 cX5_isMissing 1 (some .boolean) wsX5_isMissing rmX5_isMissing vI (fX5_isMissing b M) M [(0, .ref (eA E b))] 0 []
  unfold fX5_isMissing
  refine zz_aload_n (npc := 1) 0 rfl rfl dX5_isMissing_0 rfl ?_
  refine zz_getI (npc := 4) (i := 1) (C0 := RX5) (T := TX5) (N := 3) (sh_lt0 hb) (sh_o hb) rfl (by decide) iX5_isMissing_5 (List.mem_of_getElem? (i := 1) rfl) rfl dX5_isMissing_1 rfl ?_
  refine zz_if_ne (tgt := 11) (npc := 7) dX5_isMissing_4 (by decide) rfl ?_ ?_
  · refine zz_iconst (npc := 12) 0 (by decide) dX5_isMissing_11 rfl ?_
    exact zz_zret dX5_isMissing_12
  · refine zz_iconst (npc := 8) 1 (by decide) dX5_isMissing_7 rfl ?_
    refine zz_goto (npc := 0) (tgt := 12) dX5_isMissing_8 (by decide) ?_
    exact zz_zret dX5_isMissing_12
abbrev rmX5_renew : Room := { frames := 1, cells := 0, slots := 0, locals := 24 }
theorem iX5_renew_5 : ∀ w ∈ u_ws RX5 TX5 3, w ∈ wsX5_renew := fun w h => List.mem_cons_of_mem _ (List.mem_append_right _ h)
noncomputable def fX5_renew_L29 (b : Nat)  : Nat → Int32 → Mem → Option (Unit × Mem)
  | 0, _, _ => none
  | n + 1, y3, M => (if 40 ≤ y3 then (some ((), M)) else (ck (inb y3 40) (wm (wr M (b + 1) (ix y3) 0) fun M3 => (bv (y3 + 1) fun v4 => (fX5_renew_L29 b n v4 M3)))))
set_option maxHeartbeats 4000000 in
set_option maxRecDepth 100000 in
theorem zX5_renew_L29 (E : EV) (l : Launch) (b : Nat) (hb : isSh b)   : ∀ (n : Nat) (y3 : Int32) (M : Mem), ZZ E l RX5 cX5_renew 4 none wsX5_renew rmX5_renew vV (fX5_renew_L29 b n y3 M) M [(0, .ref (eA E b)), (3, .int y3)] 29 [] := by
  intro n
  induction n with
  | zero => intros; exact zz_none
  | succ n ih =>
    intro y3 M
    rw [fX5_renew_L29]
    refine zz_iload_n (npc := 30) 1 rfl rfl dX5_renew_29 rfl ?_
    refine zz_bipush (npc := 32) 40 (by decide) dX5_renew_30 rfl ?_
    refine zz_icmp_ge (tgt := 48) (npc := 35) dX5_renew_32 (by decide) rfl ?_ ?_
    · exact zz_vret dX5_renew_48
    · refine zz_aload_n (npc := 36) 0 rfl rfl dX5_renew_35 rfl ?_
      refine zz_getR (npc := 39) (i := 0) (C0 := RX5) (T := TX5) (N := 3) (sh_lt0 hb) (sh_o hb) rfl (by decide) iX5_renew_5 (List.mem_of_getElem? (i := 10) rfl) rfl dX5_renew_36 rfl ?_
      refine zz_iload_n (npc := 40) 1 rfl rfl dX5_renew_39 rfl ?_
      refine zz_iconst (npc := 41) 0 (by decide) dX5_renew_40 rfl ?_
      refine zz_iast (npc := 42) (sh_lt1 hb) (sh_a1 hb) dX5_renew_41 rfl (fun M3 => ?_)
      refine zz_iincB (npc := 45) (y3 + 1) (lv1 := fun v4 => [(3, .int v4), (0, .ref (eA E b))]) dX5_renew_42 rfl 1 rfl rfl (by decide) (fun _ => rfl) (fun v4 => ?_)
      refine zz_goto (npc := 0) (tgt := 29) dX5_renew_45 (by decide) ?_
      refine zz_sub (npc := 0) (lv1 := [(0, .ref (eA E b)), (3, .int v4)]) [1, 0] rfl ?_
      exact ih v4 M3
noncomputable def fX5_renew_L24 (b : Nat)  (w0 : Int32) (M : Mem) : Option (Unit × Mem) := (wm (wr M b 2 w0) fun M2 => (fX5_renew_L29 b fu 0 M2))
set_option maxHeartbeats 4000000 in
set_option maxRecDepth 100000 in
theorem zX5_renew_L24 (E : EV) (l : Launch) (b : Nat) (hb : isSh b)   : ∀ (w0 : Int32) (M : Mem), ZZ E l RX5 cX5_renew 4 none wsX5_renew rmX5_renew vV (fX5_renew_L24 b w0 M) M [(0, .ref (eA E b))] 24 [.int w0, .ref (eA E b)] := by
  intro w0 M
  unfold fX5_renew_L24
  refine zz_putI (npc := 27) (i := 2) (C0 := RX5) (T := TX5) (N := 3) (sh_lt0 hb) (sh_o hb) rfl (by decide) iX5_renew_5 (List.mem_of_getElem? (i := 9) rfl) tyX5_ok nmX5 rfl rfl rfl dX5_renew_24 rfl (fun M2 => ?_)
  refine zz_iconst (npc := 28) 0 (by decide) dX5_renew_27 rfl ?_
  refine zz_istore_n (npc := 29) (lv1 := [(3, .int 0), (0, .ref (eA E b))]) rfl dX5_renew_28 rfl (by decide) rfl ?_
  refine zz_sub (npc := 0) (lv1 := [(0, .ref (eA E b)), (3, .int 0)]) [1, 0] rfl ?_
  exact zX5_renew_L29 E l b hb fu 0 M2
noncomputable def fX5_renew (b : Nat) (x1 : Int32) (x2 : Int32) (M : Mem) : Option (Unit × Mem) := (wm (wr M b 1 x1) fun M1 => (if x1 = 0 then (fX5_renew_L24 b 0 M1) else (fX5_renew_L24 b (imax 0 (imin x2 40)) M1)))
set_option maxHeartbeats 4000000 in
set_option maxRecDepth 100000 in
theorem mtX5_renew (E : EV) (l : Launch) (b : Nat) (hb : isSh b) (x1 : Int32) (x2 : Int32) (M : Mem) : CT E l yX5_renew wsX5_renew rmX5_renew vV [.ref (eA E b), .int x1, .int x2] (fX5_renew b x1 x2 M) M := by
  refine ct_of (cc := cX5_renew) (nL := 4) (ret := none) (by decide +kernel) rfl (Nat.le_of_ble_eq_true rfl) ?_
  show ZZ E l RX5 cX5_renew 4 none wsX5_renew rmX5_renew vV (fX5_renew b x1 x2 M) M [(0, .ref (eA E b)), (1, .int x1), (2, .int x2)] 0 []
  unfold fX5_renew
  refine zz_aload_n (npc := 1) 0 rfl rfl dX5_renew_0 rfl ?_
  refine zz_iload_n (npc := 2) 1 rfl rfl dX5_renew_1 rfl ?_
  refine zz_putI (npc := 5) (i := 1) (C0 := RX5) (T := TX5) (N := 3) (sh_lt0 hb) (sh_o hb) rfl (by decide) iX5_renew_5 (List.mem_of_getElem? (i := 1) rfl) tyX5_ok nmX5 rfl rfl rfl dX5_renew_2 rfl (fun M1 => ?_)
  refine zz_aload_n (npc := 6) 0 rfl rfl dX5_renew_5 rfl ?_
  refine zz_iload_n (npc := 7) 1 rfl rfl dX5_renew_6 rfl ?_
  refine zz_if_ne (tgt := 14) (npc := 10) dX5_renew_7 (by decide) rfl ?_ ?_
  · refine zz_iconst (npc := 15) 0 (by decide) dX5_renew_14 rfl ?_
    refine zz_iload_n (npc := 16) 2 rfl rfl dX5_renew_15 rfl ?_
    refine zz_bipush (npc := 18) 40 (by decide) dX5_renew_16 rfl ?_
    refine zz_mmin (npc := 21) (List.mem_of_getElem? (i := 2) rfl) (List.mem_of_getElem? (i := 3) rfl) (List.mem_of_getElem? (i := 4) rfl) (List.mem_of_getElem? (i := 5) rfl) (Nat.le_of_ble_eq_true rfl) (Nat.le_of_ble_eq_true rfl) dX5_renew_18 rfl ?_
    refine zz_mmax (npc := 24) (List.mem_of_getElem? (i := 6) rfl) (List.mem_of_getElem? (i := 7) rfl) (List.mem_of_getElem? (i := 4) rfl) (List.mem_of_getElem? (i := 8) rfl) (Nat.le_of_ble_eq_true rfl) (Nat.le_of_ble_eq_true rfl) dX5_renew_21 rfl ?_
    refine zz_sub (npc := 0) (lv1 := [(0, .ref (eA E b))]) [0] rfl ?_
    exact zX5_renew_L24 E l b hb (imax 0 (imin x2 40)) M1
  · refine zz_iconst (npc := 11) 0 (by decide) dX5_renew_10 rfl ?_
    refine zz_goto (npc := 0) (tgt := 24) dX5_renew_11 (by decide) ?_
    refine zz_sub (npc := 0) (lv1 := [(0, .ref (eA E b))]) [0] rfl ?_
    exact zX5_renew_L24 E l b hb 0 M1
abbrev rmX5_put : Room := { frames := 1, cells := 0, slots := 0, locals := 21 }
theorem iX5_put_5 : ∀ w ∈ u_ws RX5 TX5 3, w ∈ wsX5_put := fun w h => List.mem_cons_of_mem _ (List.mem_append_right _ h)
noncomputable def fX5_put_L47 (b : Nat)  (w0 : Int32) (w1 : Int32) (M : Mem) : Option (Unit × Mem) := (ck (inb w1 40) (wm (wr M (b + 1) (ix w1) w0) fun M3 => (some ((), M3))))
set_option maxHeartbeats 4000000 in
set_option maxRecDepth 100000 in
theorem zX5_put_L47 (E : EV) (l : Launch) (b : Nat) (hb : isSh b)   : ∀ (w0 : Int32) (w1 : Int32) (M : Mem), ZZ E l RX5 cX5_put 3 none wsX5_put rmX5_put vV (fX5_put_L47 b w0 w1 M) M [] 47 [.int w0, .int w1, .ref (eA E (b + 1))] := by
  intro w0 w1 M
  unfold fX5_put_L47
  refine zz_iast (npc := 48) (sh_lt1 hb) (sh_a1 hb) dX5_put_47 rfl (fun M3 => ?_)
  exact zz_vret dX5_put_48
noncomputable def fX5_put (b : Nat) (x1 : Int32) (x2 : Int32) (M : Mem) : Option (Unit × Mem) := (bd (fX7_isWithin x1 ((M b 2) - 1) M) fun r2 M1 => (if r2 = 0 then (some ((), M1)) else (if (M1 b 1) = 8 then (fX5_put_L47 b (i2b x2) x1 M1) else (if (M1 b 1) = 16 then (fX5_put_L47 b (i2s x2) x1 M1) else (fX5_put_L47 b x2 x1 M1)))))
set_option maxHeartbeats 4000000 in
set_option maxRecDepth 100000 in
theorem mtX5_put (E : EV) (l : Launch) (b : Nat) (hb : isSh b) (x1 : Int32) (x2 : Int32) (M : Mem) : CT E l yX5_put wsX5_put rmX5_put vV [.ref (eA E b), .int x1, .int x2] (fX5_put b x1 x2 M) M := by
  refine ct_of (cc := cX5_put) (nL := 3) (ret := none) (by decide +kernel) rfl (Nat.le_of_ble_eq_true rfl) ?_
  show ZZ E l RX5 cX5_put 3 none wsX5_put rmX5_put vV (fX5_put b x1 x2 M) M [(0, .ref (eA E b)), (1, .int x1), (2, .int x2)] 0 []
  unfold fX5_put
  refine zz_iload_n (npc := 1) 1 rfl rfl dX5_put_0 rfl ?_
  refine zz_aload_n (npc := 2) 0 rfl rfl dX5_put_1 rfl ?_
  refine zz_getI (npc := 5) (i := 2) (C0 := RX5) (T := TX5) (N := 3) (sh_lt0 hb) (sh_o hb) rfl (by decide) iX5_put_5 (List.mem_of_getElem? (i := 1) rfl) rfl dX5_put_2 rfl ?_
  refine zz_iconst (npc := 6) 1 (by decide) dX5_put_5 rfl ?_
  refine zz_isub (npc := 7) dX5_put_6 rfl ?_
  refine zz_callNi (npc := 10) (n := 2) (As := [.int x1, .int ((M b 2) - 1)]) (host := "SharedShadow") gX5_put_X7_isWithin_n31 (List.mem_of_getElem? (i := 14) rfl) (List.mem_of_getElem? (i := 4) rfl) (List.mem_of_getElem? (i := 5) rfl) rfl rfl rfl (by decide +kernel) ⟨Nat.le_of_ble_eq_true rfl, Nat.le_of_ble_eq_true rfl⟩ rfl rfl (Nat.le_of_ble_eq_true rfl) (mtX7_isWithin E l  x1 ((M b 2) - 1) M) dX5_put_7 rfl (fun r2 M1 _ => ?_)
  refine zz_if_eq (tgt := 48) (npc := 13) dX5_put_10 (by decide) rfl ?_ ?_
  · exact zz_vret dX5_put_48
  · refine zz_aload_n (npc := 14) 0 rfl rfl dX5_put_13 rfl ?_
    refine zz_getR (npc := 17) (i := 0) (C0 := RX5) (T := TX5) (N := 3) (sh_lt0 hb) (sh_o hb) rfl (by decide) iX5_put_5 (List.mem_of_getElem? (i := 2) rfl) rfl dX5_put_14 rfl ?_
    refine zz_iload_n (npc := 18) 1 rfl rfl dX5_put_17 rfl ?_
    refine zz_aload_n (npc := 19) 0 rfl rfl dX5_put_18 rfl ?_
    refine zz_getI (npc := 22) (i := 1) (C0 := RX5) (T := TX5) (N := 3) (sh_lt0 hb) (sh_o hb) rfl (by decide) iX5_put_5 (List.mem_of_getElem? (i := 3) rfl) rfl dX5_put_19 rfl ?_
    refine zz_bipush (npc := 24) 8 (by decide) dX5_put_22 rfl ?_
    refine zz_icmp_ne (tgt := 32) (npc := 27) dX5_put_24 (by decide) rfl ?_ ?_
    · refine zz_aload_n (npc := 33) 0 rfl rfl dX5_put_32 rfl ?_
      refine zz_getI (npc := 36) (i := 1) (C0 := RX5) (T := TX5) (N := 3) (sh_lt0 hb) (sh_o hb) rfl (by decide) iX5_put_5 (List.mem_of_getElem? (i := 3) rfl) rfl dX5_put_33 rfl ?_
      refine zz_bipush (npc := 38) 16 (by decide) dX5_put_36 rfl ?_
      refine zz_icmp_ne (tgt := 46) (npc := 41) dX5_put_38 (by decide) rfl ?_ ?_
      · refine zz_iload_n (npc := 47) 2 rfl rfl dX5_put_46 rfl ?_
        refine zz_sub (npc := 0) (lv1 := []) [] rfl ?_
        exact zX5_put_L47 E l b hb x2 x1 M1
      · refine zz_iload_n (npc := 42) 2 rfl rfl dX5_put_41 rfl ?_
        refine zz_i2s (npc := 43) dX5_put_42 rfl ?_
        refine zz_goto (npc := 0) (tgt := 47) dX5_put_43 (by decide) ?_
        refine zz_sub (npc := 0) (lv1 := []) [] rfl ?_
        exact zX5_put_L47 E l b hb (i2s x2) x1 M1
    · refine zz_iload_n (npc := 28) 2 rfl rfl dX5_put_27 rfl ?_
      refine zz_i2b (npc := 29) dX5_put_28 rfl ?_
      refine zz_goto (npc := 0) (tgt := 47) dX5_put_29 (by decide) ?_
      refine zz_sub (npc := 0) (lv1 := []) [] rfl ?_
      exact zX5_put_L47 E l b hb (i2b x2) x1 M1
abbrev rmX5_hasRun : Room := { frames := 0, cells := 0, slots := 0, locals := 0 }
theorem iX5_hasRun_5 : ∀ w ∈ u_ws RX5 TX5 3, w ∈ wsX5_hasRun := fun w h => List.mem_cons_of_mem _ (List.mem_append_right _ h)
noncomputable def fX5_hasRun (b : Nat) (x1 : Int32) (x2 : Int32) (M : Mem) : Option (Int32 × Mem) := (if x1 < 0 then (ck (isb 0) (some (0, M))) else (if x2 < 0 then (ck (isb 0) (some (0, M))) else (if (M b 2) < x2 then (ck (isb 0) (some (0, M))) else (if ((M b 2) - x2) < x1 then (ck (isb 0) (some (0, M))) else (ck (isb 1) (some (1, M)))))))
set_option maxHeartbeats 4000000 in
set_option maxRecDepth 100000 in
theorem mtX5_hasRun (E : EV) (l : Launch) (b : Nat) (hb : isSh b) (x1 : Int32) (x2 : Int32) (M : Mem) : CT E l yX5_hasRun wsX5_hasRun rmX5_hasRun vI [.ref (eA E b), .int x1, .int x2] (fX5_hasRun b x1 x2 M) M := by
  refine ct_of (cc := cX5_hasRun) (nL := 3) (ret := (some .boolean)) (by decide +kernel) rfl (Nat.le_of_ble_eq_true rfl) ?_
  show ZZ E l RX5 cX5_hasRun 3 (some .boolean) wsX5_hasRun rmX5_hasRun vI (fX5_hasRun b x1 x2 M) M [(0, .ref (eA E b)), (1, .int x1), (2, .int x2)] 0 []
  unfold fX5_hasRun
  refine zz_iload_n (npc := 1) 1 rfl rfl dX5_hasRun_0 rfl ?_
  refine zz_if_lt (tgt := 30) (npc := 4) dX5_hasRun_1 (by decide) rfl ?_ ?_
  · refine zz_iconst (npc := 31) 0 (by decide) dX5_hasRun_30 rfl ?_
    exact zz_zret dX5_hasRun_31
  · refine zz_iload_n (npc := 5) 2 rfl rfl dX5_hasRun_4 rfl ?_
    refine zz_if_lt (tgt := 30) (npc := 8) dX5_hasRun_5 (by decide) rfl ?_ ?_
    · refine zz_iconst (npc := 31) 0 (by decide) dX5_hasRun_30 rfl ?_
      exact zz_zret dX5_hasRun_31
    · refine zz_iload_n (npc := 9) 2 rfl rfl dX5_hasRun_8 rfl ?_
      refine zz_aload_n (npc := 10) 0 rfl rfl dX5_hasRun_9 rfl ?_
      refine zz_getI (npc := 13) (i := 2) (C0 := RX5) (T := TX5) (N := 3) (sh_lt0 hb) (sh_o hb) rfl (by decide) iX5_hasRun_5 (List.mem_of_getElem? (i := 1) rfl) rfl dX5_hasRun_10 rfl ?_
      refine zz_icmp_gt (tgt := 30) (npc := 16) dX5_hasRun_13 (by decide) rfl ?_ ?_
      · refine zz_iconst (npc := 31) 0 (by decide) dX5_hasRun_30 rfl ?_
        exact zz_zret dX5_hasRun_31
      · refine zz_iload_n (npc := 17) 1 rfl rfl dX5_hasRun_16 rfl ?_
        refine zz_aload_n (npc := 18) 0 rfl rfl dX5_hasRun_17 rfl ?_
        refine zz_getI (npc := 21) (i := 2) (C0 := RX5) (T := TX5) (N := 3) (sh_lt0 hb) (sh_o hb) rfl (by decide) iX5_hasRun_5 (List.mem_of_getElem? (i := 1) rfl) rfl dX5_hasRun_18 rfl ?_
        refine zz_iload_n (npc := 22) 2 rfl rfl dX5_hasRun_21 rfl ?_
        refine zz_isub (npc := 23) dX5_hasRun_22 rfl ?_
        refine zz_icmp_gt (tgt := 30) (npc := 26) dX5_hasRun_23 (by decide) rfl ?_ ?_
        · refine zz_iconst (npc := 31) 0 (by decide) dX5_hasRun_30 rfl ?_
          exact zz_zret dX5_hasRun_31
        · refine zz_iconst (npc := 27) 1 (by decide) dX5_hasRun_26 rfl ?_
          refine zz_goto (npc := 0) (tgt := 31) dX5_hasRun_27 (by decide) ?_
          exact zz_zret dX5_hasRun_31
abbrev rmX5_tellsSetsOf : Room := { frames := 0, cells := 0, slots := 0, locals := 0 }
theorem iX5_tellsSetsOf_5 : ∀ w ∈ u_ws RX5 TX5 3, w ∈ wsX5_tellsSetsOf := fun w h => List.mem_cons_of_mem _ (List.mem_append_right _ h)
noncomputable def fX5_tellsSetsOf_L2 (b : Nat)  : Nat → Int32 → Int32 → Int32 → Mem → Option (Int32 × Mem)
  | 0, _, _, _, _ => none
  | n + 1, y1, y2, y3, M => (if (M b 2) ≤ y3 then (ck (isb 1) (some (1, M))) else (if y2 ≤ y3 then (ck (isb 1) (some (1, M))) else (ck (inb y3 40) (if ((M (b + 1) (ix y3)) &&& (y1 ^^^ (-1))) = 0 then (bv (y3 + 1) fun v1 => (fX5_tellsSetsOf_L2 b n y1 y2 v1 M)) else (ck (isb 0) (some (0, M)))))))
set_option maxHeartbeats 4000000 in
set_option maxRecDepth 100000 in
theorem zX5_tellsSetsOf_L2 (E : EV) (l : Launch) (b : Nat) (hb : isSh b)   : ∀ (n : Nat) (y1 : Int32) (y2 : Int32) (y3 : Int32) (M : Mem), ZZ E l RX5 cX5_tellsSetsOf 4 (some .boolean) wsX5_tellsSetsOf rmX5_tellsSetsOf vI (fX5_tellsSetsOf_L2 b n y1 y2 y3 M) M [(0, .ref (eA E b)), (1, .int y1), (2, .int y2), (3, .int y3)] 2 [] := by
  intro n
  induction n with
  | zero => intros; exact zz_none
  | succ n ih =>
    intro y1 y2 y3 M
    rw [fX5_tellsSetsOf_L2]
    refine zz_iload_n (npc := 3) 3 rfl rfl dX5_tellsSetsOf_2 rfl ?_
    refine zz_aload_n (npc := 4) 0 rfl rfl dX5_tellsSetsOf_3 rfl ?_
    refine zz_getI (npc := 7) (i := 2) (C0 := RX5) (T := TX5) (N := 3) (sh_lt0 hb) (sh_o hb) rfl (by decide) iX5_tellsSetsOf_5 (List.mem_of_getElem? (i := 1) rfl) rfl dX5_tellsSetsOf_4 rfl ?_
    refine zz_icmp_ge (tgt := 36) (npc := 10) dX5_tellsSetsOf_7 (by decide) rfl ?_ ?_
    · refine zz_iconst (npc := 37) 1 (by decide) dX5_tellsSetsOf_36 rfl ?_
      exact zz_zret dX5_tellsSetsOf_37
    · refine zz_iload_n (npc := 11) 3 rfl rfl dX5_tellsSetsOf_10 rfl ?_
      refine zz_iload_n (npc := 12) 2 rfl rfl dX5_tellsSetsOf_11 rfl ?_
      refine zz_icmp_ge (tgt := 36) (npc := 15) dX5_tellsSetsOf_12 (by decide) rfl ?_ ?_
      · refine zz_iconst (npc := 37) 1 (by decide) dX5_tellsSetsOf_36 rfl ?_
        exact zz_zret dX5_tellsSetsOf_37
      · refine zz_aload_n (npc := 16) 0 rfl rfl dX5_tellsSetsOf_15 rfl ?_
        refine zz_getR (npc := 19) (i := 0) (C0 := RX5) (T := TX5) (N := 3) (sh_lt0 hb) (sh_o hb) rfl (by decide) iX5_tellsSetsOf_5 (List.mem_of_getElem? (i := 2) rfl) rfl dX5_tellsSetsOf_16 rfl ?_
        refine zz_iload_n (npc := 20) 3 rfl rfl dX5_tellsSetsOf_19 rfl ?_
        refine zz_iald (npc := 21) (sh_lt1 hb) (sh_a1 hb) dX5_tellsSetsOf_20 rfl ?_
        refine zz_iload_n (npc := 22) 1 rfl rfl dX5_tellsSetsOf_21 rfl ?_
        refine zz_iconst (npc := 23) (-1) (by decide) dX5_tellsSetsOf_22 rfl ?_
        refine zz_ixor (npc := 24) dX5_tellsSetsOf_23 rfl ?_
        refine zz_iand (npc := 25) dX5_tellsSetsOf_24 rfl ?_
        refine zz_if_eq (tgt := 30) (npc := 28) dX5_tellsSetsOf_25 (by decide) rfl ?_ ?_
        · refine zz_iincB (npc := 33) (y3 + 1) (lv1 := fun v1 => [(3, .int v1), (0, .ref (eA E b)), (1, .int y1), (2, .int y2)]) dX5_tellsSetsOf_30 rfl 3 rfl rfl (by decide) (fun _ => rfl) (fun v1 => ?_)
          refine zz_goto (npc := 0) (tgt := 2) dX5_tellsSetsOf_33 (by decide) ?_
          refine zz_sub (npc := 0) (lv1 := [(0, .ref (eA E b)), (1, .int y1), (2, .int y2), (3, .int v1)]) [1, 2, 3, 0] rfl ?_
          exact ih y1 y2 v1 M
        · refine zz_iconst (npc := 29) 0 (by decide) dX5_tellsSetsOf_28 rfl ?_
          exact zz_zret dX5_tellsSetsOf_29
noncomputable def fX5_tellsSetsOf (b : Nat) (x1 : Int32) (x2 : Int32) (M : Mem) : Option (Int32 × Mem) := (fX5_tellsSetsOf_L2 b fu x1 x2 0 M)
set_option maxHeartbeats 4000000 in
set_option maxRecDepth 100000 in
theorem mtX5_tellsSetsOf (E : EV) (l : Launch) (b : Nat) (hb : isSh b) (x1 : Int32) (x2 : Int32) (M : Mem) : CT E l yX5_tellsSetsOf wsX5_tellsSetsOf rmX5_tellsSetsOf vI [.ref (eA E b), .int x1, .int x2] (fX5_tellsSetsOf b x1 x2 M) M := by
  refine ct_of (cc := cX5_tellsSetsOf) (nL := 4) (ret := (some .boolean)) (by decide +kernel) rfl (Nat.le_of_ble_eq_true rfl) ?_
  show ZZ E l RX5 cX5_tellsSetsOf 4 (some .boolean) wsX5_tellsSetsOf rmX5_tellsSetsOf vI (fX5_tellsSetsOf b x1 x2 M) M [(0, .ref (eA E b)), (1, .int x1), (2, .int x2)] 0 []
  unfold fX5_tellsSetsOf
  refine zz_iconst (npc := 1) 0 (by decide) dX5_tellsSetsOf_0 rfl ?_
  refine zz_istore_n (npc := 2) (lv1 := [(3, .int 0), (0, .ref (eA E b)), (1, .int x1), (2, .int x2)]) rfl dX5_tellsSetsOf_1 rfl (by decide) rfl ?_
  refine zz_sub (npc := 0) (lv1 := [(0, .ref (eA E b)), (1, .int x1), (2, .int x2), (3, .int 0)]) [1, 2, 3, 0] rfl ?_
  exact zX5_tellsSetsOf_L2 E l b hb fu x1 x2 0 M
abbrev rmX6_append : Room := { frames := 0, cells := 0, slots := 0, locals := 0 }
theorem iX6_append_6 : ∀ w ∈ u_ws RX6 TX6 2, w ∈ wsX6_append := fun w h => List.mem_cons_of_mem _ (List.mem_append_right _ h)
noncomputable def fX6_append  (x1 : Int32) (M : Mem) : Option (Unit × Mem) := (if 120 ≤ (M 34 1) then (some ((), M)) else (ck (inb (M 34 1) 120) (wm (wr M 35 (ix (M 34 1)) (x1 &&& 255)) fun M1 => (wm (wr M1 34 1 ((M1 34 1) + 1)) fun M2 => (some ((), M2))))))
set_option maxHeartbeats 4000000 in
set_option maxRecDepth 100000 in
theorem mtX6_append (E : EV) (l : Launch)   (x1 : Int32) (M : Mem) : CT E l yX6_append wsX6_append rmX6_append vV [.ref (eA E 34), .int x1] (fX6_append x1 M) M := by
  refine ct_of (cc := cX6_append) (nL := 2) (ret := none) (by decide +kernel) rfl (Nat.le_of_ble_eq_true rfl) ?_
  show ZZ E l RX6 cX6_append 2 none wsX6_append rmX6_append vV (fX6_append x1 M) M [(0, .ref (eA E 34)), (1, .int x1)] 0 []
  unfold fX6_append
  refine zz_aload_n (npc := 1) 0 rfl rfl dX6_append_0 rfl ?_
  refine zz_getI (npc := 4) (i := 1) (C0 := RX6) (T := TX6) (N := 2) (by decide) (by rfl) rfl (by decide) iX6_append_6 (List.mem_of_getElem? (i := 1) rfl) rfl dX6_append_1 rfl ?_
  refine zz_bipush (npc := 6) 120 (by decide) dX6_append_4 rfl ?_
  refine zz_icmp_ge (tgt := 33) (npc := 9) dX6_append_6 (by decide) rfl ?_ ?_
  · exact zz_vret dX6_append_33
  · refine zz_aload_n (npc := 10) 0 rfl rfl dX6_append_9 rfl ?_
    refine zz_getR (npc := 13) (i := 0) (C0 := RX6) (T := TX6) (N := 2) (by decide) (by rfl) rfl (by decide) iX6_append_6 (List.mem_of_getElem? (i := 2) rfl) rfl dX6_append_10 rfl ?_
    refine zz_aload_n (npc := 14) 0 rfl rfl dX6_append_13 rfl ?_
    refine zz_getI (npc := 17) (i := 1) (C0 := RX6) (T := TX6) (N := 2) (by decide) (by rfl) rfl (by decide) iX6_append_6 (List.mem_of_getElem? (i := 1) rfl) rfl dX6_append_14 rfl ?_
    refine zz_iload_n (npc := 18) 1 rfl rfl dX6_append_17 rfl ?_
    refine zz_sipush (npc := 21) 255 (by decide) dX6_append_18 rfl ?_
    refine zz_iand (npc := 22) dX6_append_21 rfl ?_
    refine zz_iast (npc := 23) (by decide) (by rfl) dX6_append_22 rfl (fun M1 => ?_)
    refine zz_aload_n (npc := 24) 0 rfl rfl dX6_append_23 rfl ?_
    refine zz_dup (npc := 25) rfl dX6_append_24 rfl ?_
    refine zz_getI (npc := 28) (i := 1) (C0 := RX6) (T := TX6) (N := 2) (by decide) (by rfl) rfl (by decide) iX6_append_6 (List.mem_of_getElem? (i := 1) rfl) rfl dX6_append_25 rfl ?_
    refine zz_iconst (npc := 29) 1 (by decide) dX6_append_28 rfl ?_
    refine zz_iadd (npc := 30) dX6_append_29 rfl ?_
    refine zz_putI (npc := 33) (i := 1) (C0 := RX6) (T := TX6) (N := 2) (by decide) (by rfl) rfl (by decide) iX6_append_6 (List.mem_of_getElem? (i := 1) rfl) tyX6_ok nmX6 rfl rfl rfl dX6_append_30 rfl (fun M2 => ?_)
    exact zz_vret dX6_append_33

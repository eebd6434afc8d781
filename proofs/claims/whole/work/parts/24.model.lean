abbrev rmX8_tear : Room := { frames := 0, cells := 0, slots := 0, locals := 0 }
theorem iX8_tear_8 : ∀ w ∈ u_ws RX8 TX8 29, w ∈ wsX8_tear := fun w h => List.mem_cons_of_mem _ (List.mem_append_right _ h)
noncomputable def fX8_tear_L12   (w0 : Int32) (M : Mem) : Option (Int32 × Mem) := (ck (isb 0) (wm (wr M 57 3 0) fun M1 => (some (w0, M1))))
set_option maxHeartbeats 4000000 in
set_option maxRecDepth 100000 in
theorem zX8_tear_L12 (E : EV) (l : Launch)     : ∀ (w0 : Int32) (M : Mem), ZZ E l RX8 cX8_tear 2 (some .int) wsX8_tear rmX8_tear vI (fX8_tear_L12 w0 M) M [(0, .ref (eA E 57))] 12 [.int w0] := by
  intro w0 M
  unfold fX8_tear_L12
  refine zz_istore_n (npc := 13) (lv1 := [(1, .int w0), (0, .ref (eA E 57))]) rfl dX8_tear_12 rfl (by decide) rfl ?_
  refine zz_aload_n (npc := 14) 1 rfl rfl dX8_tear_13 rfl ?_
  refine zz_iconst (npc := 15) 0 (by decide) dX8_tear_14 rfl ?_
  refine zz_putZ (npc := 18) (i := 3) (C0 := RX8) (T := TX8) (N := 29) (by decide) (by rfl) rfl (by decide) iX8_tear_8 (List.mem_of_getElem? (i := 1) rfl) tyX8_ok nmX8 rfl rfl rfl dX8_tear_15 rfl (fun M1 => ?_)
  refine zz_iload_n (npc := 19) 0 rfl rfl dX8_tear_18 rfl ?_
  exact zz_iret dX8_tear_19
noncomputable def fX8_tear   (M : Mem) : Option (Int32 × Mem) := (if (M 57 3) = 0 then (fX8_tear_L12  0 M) else (fX8_tear_L12  1 M))
set_option maxHeartbeats 4000000 in
set_option maxRecDepth 100000 in
theorem mtX8_tear (E : EV) (l : Launch)    (M : Mem) : CT E l yX8_tear wsX8_tear rmX8_tear vI [.ref (eA E 57)] (fX8_tear  M) M := by
  refine ct_of (cc := cX8_tear) (nL := 2) (ret := (some .int)) (by decide +kernel) rfl (Nat.le_of_ble_eq_true rfl) ?_
  show ZZ E l RX8 cX8_tear 2 (some .int) wsX8_tear rmX8_tear vI (fX8_tear  M) M [(0, .ref (eA E 57))] 0 []
  unfold fX8_tear
  refine zz_aload_n (npc := 1) 0 rfl rfl dX8_tear_0 rfl ?_
  refine zz_getI (npc := 4) (i := 3) (C0 := RX8) (T := TX8) (N := 29) (by decide) (by rfl) rfl (by decide) iX8_tear_8 (List.mem_of_getElem? (i := 1) rfl) rfl dX8_tear_1 rfl ?_
  refine zz_if_eq (tgt := 11) (npc := 7) dX8_tear_4 (by decide) rfl ?_ ?_
  · refine zz_iconst (npc := 12) 0 (by decide) dX8_tear_11 rfl ?_
    exact zX8_tear_L12 E l  0 M
  · refine zz_iconst (npc := 8) 1 (by decide) dX8_tear_7 rfl ?_
    refine zz_goto (npc := 0) (tgt := 12) dX8_tear_8 (by decide) ?_
    exact zX8_tear_L12 E l  1 M
abbrev rmX8_count : Room := { frames := 2, cells := 0, slots := 0, locals := 43 }
theorem iX8_count_8 : ∀ w ∈ u_ws RX8 TX8 29, w ∈ wsX8_count := fun w h => List.mem_cons_of_mem _ (List.mem_append_right _ h)
noncomputable def fX8_count_L89  (k64 : Int32 → Int32 → Mem → Option (Int32 × Mem)) (y3 : Int32) (w0 : Int32) (w1 : Int32) (M : Mem) : Option (Int32 × Mem) := (bv (w1 + w0) fun v9 => (bv (y3 + 1) fun v10 => (k64 v9 v10 M)))
set_option maxHeartbeats 4000000 in
set_option maxRecDepth 100000 in
theorem zX8_count_L89 (E : EV) (l : Launch)   (k64 : Int32 → Int32 → Mem → Option (Int32 × Mem)) (hk64 : ∀ (y2_ : Int32) (y3_ : Int32) (M_ : Mem), ZZ E l RX8 cX8_count 4 (some .int) wsX8_count rmX8_count vI (k64 y2_ y3_ M_) M_ [(0, .ref (eA E 57)), (2, .int y2_), (3, .int y3_)] 64 []) : ∀ (y3 : Int32) (w0 : Int32) (w1 : Int32) (M : Mem), ZZ E l RX8 cX8_count 4 (some .int) wsX8_count rmX8_count vI (fX8_count_L89 k64 y3 w0 w1 M) M [(0, .ref (eA E 57)), (3, .int y3)] 89 [.int w0, .int w1] := by
  intro y3 w0 w1 M
  unfold fX8_count_L89
  refine zz_iadd (npc := 90) dX8_count_89 rfl ?_
  refine zz_istore_nB (npc := 91) (lv1 := fun v9 => [(2, .int v9), (0, .ref (eA E 57)), (3, .int y3)]) rfl dX8_count_90 rfl (by decide) (fun _ => rfl) (fun v9 => ?_)
  refine zz_iincB (npc := 94) (y3 + 1) (lv1 := fun v10 => [(3, .int v10), (2, .int v9), (0, .ref (eA E 57))]) dX8_count_91 rfl 2 rfl rfl (by decide) (fun _ => rfl) (fun v10 => ?_)
  refine zz_goto (npc := 0) (tgt := 64) dX8_count_94 (by decide) ?_
  refine zz_sub (npc := 0) (lv1 := [(0, .ref (eA E 57)), (2, .int v9), (3, .int v10)]) [2, 1, 0] rfl ?_
  exact hk64 v9 v10 M
noncomputable def fX8_count_L64   : Nat → Int32 → Int32 → Mem → Option (Int32 × Mem)
  | 0, _, _, _ => none
  | n + 1, y2, y3, M => (ck (inb 4 56) (if (M 58 (ix 4)) ≤ y3 then (some (y2, M)) else (bd (fX8_personIs y3 4 M) fun r4 M3 => (if 0 ≤ r4 then (fX8_count_L89 (fX8_count_L64  n) y3 1 y2 M3) else (fX8_count_L89 (fX8_count_L64  n) y3 0 y2 M3)))))
set_option maxHeartbeats 4000000 in
set_option maxRecDepth 100000 in
theorem zX8_count_L64 (E : EV) (l : Launch)     : ∀ (n : Nat) (y2 : Int32) (y3 : Int32) (M : Mem), ZZ E l RX8 cX8_count 4 (some .int) wsX8_count rmX8_count vI (fX8_count_L64 n y2 y3 M) M [(0, .ref (eA E 57)), (2, .int y2), (3, .int y3)] 64 [] := by
  intro n
  induction n with
  | zero => intros; exact zz_none
  | succ n ih =>
    intro y2 y3 M
    rw [fX8_count_L64]
    refine zz_iload_n (npc := 65) 2 rfl rfl dX8_count_64 rfl ?_
    refine zz_aload_n (npc := 66) 0 rfl rfl dX8_count_65 rfl ?_
    refine zz_getR (npc := 69) (i := 0) (C0 := RX8) (T := TX8) (N := 29) (by decide) (by rfl) rfl (by decide) iX8_count_8 (List.mem_of_getElem? (i := 1) rfl) rfl dX8_count_66 rfl ?_
    refine zz_iconst (npc := 70) 4 (by decide) dX8_count_69 rfl ?_
    refine zz_iald (npc := 71) (by decide) (by rfl) dX8_count_70 rfl ?_
    refine zz_icmp_ge (tgt := 97) (npc := 74) dX8_count_71 (by decide) rfl ?_ ?_
    · refine zz_iload_n (npc := 98) 1 rfl rfl dX8_count_97 rfl ?_
      exact zz_iret dX8_count_98
    · refine zz_iload_n (npc := 75) 1 rfl rfl dX8_count_74 rfl ?_
      refine zz_aload_n (npc := 76) 0 rfl rfl dX8_count_75 rfl ?_
      refine zz_iload_n (npc := 77) 2 rfl rfl dX8_count_76 rfl ?_
      refine zz_iconst (npc := 78) 4 (by decide) dX8_count_77 rfl ?_
      refine zz_callVi (npc := 81) (n := 2) (As := [.int y3, .int 4]) (by decide) (by rfl) rfl gX8_count_X8_personIs rfl rfl rfl (by decide +kernel) ⟨Nat.le_of_ble_eq_true rfl, Nat.le_of_ble_eq_true rfl⟩ rfl rfl (Nat.le_of_ble_eq_true rfl) (mtX8_personIs E l  y3 4 M) dX8_count_78 rfl (fun r4 M3 _ => ?_)
      refine zz_if_ge (tgt := 88) (npc := 84) dX8_count_81 (by decide) rfl ?_ ?_
      · refine zz_iconst (npc := 89) 1 (by decide) dX8_count_88 rfl ?_
        refine zz_sub (npc := 0) (lv1 := [(0, .ref (eA E 57)), (3, .int y3)]) [0, 2] rfl ?_
        exact zX8_count_L89 E l (fX8_count_L64  n) ih y3 1 y2 M3
      · refine zz_iconst (npc := 85) 0 (by decide) dX8_count_84 rfl ?_
        refine zz_goto (npc := 0) (tgt := 89) dX8_count_85 (by decide) ?_
        refine zz_sub (npc := 0) (lv1 := [(0, .ref (eA E 57)), (3, .int y3)]) [0, 2] rfl ?_
        exact zX8_count_L89 E l (fX8_count_L64  n) ih y3 0 y2 M3
noncomputable def fX8_count_L108   : Nat → Int32 → Int32 → Mem → Option (Int32 × Mem)
  | 0, _, _, _ => none
  | n + 1, y2, y3, M => (ck (inb 4 56) (if (M 58 (ix 4)) ≤ y3 then (some (y2, M)) else (bd (fX8_personIs y3 1 M) fun r6 M5 => (bv (y2 + r6) fun v7 => (bv (y3 + 1) fun v8 => (fX8_count_L108  n v7 v8 M5))))))
set_option maxHeartbeats 4000000 in
set_option maxRecDepth 100000 in
theorem zX8_count_L108 (E : EV) (l : Launch)     : ∀ (n : Nat) (y2 : Int32) (y3 : Int32) (M : Mem), ZZ E l RX8 cX8_count 4 (some .int) wsX8_count rmX8_count vI (fX8_count_L108 n y2 y3 M) M [(0, .ref (eA E 57)), (2, .int y2), (3, .int y3)] 108 [] := by
  intro n
  induction n with
  | zero => intros; exact zz_none
  | succ n ih =>
    intro y2 y3 M
    rw [fX8_count_L108]
    refine zz_iload_n (npc := 109) 2 rfl rfl dX8_count_108 rfl ?_
    refine zz_aload_n (npc := 110) 0 rfl rfl dX8_count_109 rfl ?_
    refine zz_getR (npc := 113) (i := 0) (C0 := RX8) (T := TX8) (N := 29) (by decide) (by rfl) rfl (by decide) iX8_count_8 (List.mem_of_getElem? (i := 1) rfl) rfl dX8_count_110 rfl ?_
    refine zz_iconst (npc := 114) 4 (by decide) dX8_count_113 rfl ?_
    refine zz_iald (npc := 115) (by decide) (by rfl) dX8_count_114 rfl ?_
    refine zz_icmp_ge (tgt := 133) (npc := 118) dX8_count_115 (by decide) rfl ?_ ?_
    · refine zz_iload_n (npc := 134) 1 rfl rfl dX8_count_133 rfl ?_
      exact zz_iret dX8_count_134
    · refine zz_iload_n (npc := 119) 1 rfl rfl dX8_count_118 rfl ?_
      refine zz_aload_n (npc := 120) 0 rfl rfl dX8_count_119 rfl ?_
      refine zz_iload_n (npc := 121) 2 rfl rfl dX8_count_120 rfl ?_
      refine zz_iconst (npc := 122) 1 (by decide) dX8_count_121 rfl ?_
      refine zz_callVi (npc := 125) (n := 2) (As := [.int y3, .int 1]) (by decide) (by rfl) rfl gX8_count_X8_personIs rfl rfl rfl (by decide +kernel) ⟨Nat.le_of_ble_eq_true rfl, Nat.le_of_ble_eq_true rfl⟩ rfl rfl (Nat.le_of_ble_eq_true rfl) (mtX8_personIs E l  y3 1 M) dX8_count_122 rfl (fun r6 M5 _ => ?_)
      refine zz_iadd (npc := 126) dX8_count_125 rfl ?_
      refine zz_istore_nB (npc := 127) (lv1 := fun v7 => [(2, .int v7), (0, .ref (eA E 57)), (3, .int y3)]) rfl dX8_count_126 rfl (by decide) (fun _ => rfl) (fun v7 => ?_)
      refine zz_iincB (npc := 130) (y3 + 1) (lv1 := fun v8 => [(3, .int v8), (2, .int v7), (0, .ref (eA E 57))]) dX8_count_127 rfl 2 rfl rfl (by decide) (fun _ => rfl) (fun v8 => ?_)
      refine zz_goto (npc := 0) (tgt := 108) dX8_count_130 (by decide) ?_
      refine zz_sub (npc := 0) (lv1 := [(0, .ref (eA E 57)), (2, .int v7), (3, .int v8)]) [2, 1, 0] rfl ?_
      exact ih v7 v8 M5
noncomputable def fX8_count_L173  (k149 : Int32 → Int32 → Mem → Option (Int32 × Mem)) (y3 : Int32) (w0 : Int32) (w1 : Int32) (M : Mem) : Option (Int32 × Mem) := (bv (w1 + w0) fun v11 => (bv (y3 + 1) fun v12 => (k149 v11 v12 M)))
set_option maxHeartbeats 4000000 in
set_option maxRecDepth 100000 in
theorem zX8_count_L173 (E : EV) (l : Launch)   (k149 : Int32 → Int32 → Mem → Option (Int32 × Mem)) (hk149 : ∀ (y2_ : Int32) (y3_ : Int32) (M_ : Mem), ZZ E l RX8 cX8_count 4 (some .int) wsX8_count rmX8_count vI (k149 y2_ y3_ M_) M_ [(0, .ref (eA E 57)), (2, .int y2_), (3, .int y3_)] 149 []) : ∀ (y3 : Int32) (w0 : Int32) (w1 : Int32) (M : Mem), ZZ E l RX8 cX8_count 4 (some .int) wsX8_count rmX8_count vI (fX8_count_L173 k149 y3 w0 w1 M) M [(0, .ref (eA E 57)), (3, .int y3)] 173 [.int w0, .int w1] := by
  intro y3 w0 w1 M
  unfold fX8_count_L173
  refine zz_iadd (npc := 174) dX8_count_173 rfl ?_
  refine zz_istore_nB (npc := 175) (lv1 := fun v11 => [(2, .int v11), (0, .ref (eA E 57)), (3, .int y3)]) rfl dX8_count_174 rfl (by decide) (fun _ => rfl) (fun v11 => ?_)
  refine zz_iincB (npc := 178) (y3 + 1) (lv1 := fun v12 => [(3, .int v12), (2, .int v11), (0, .ref (eA E 57))]) dX8_count_175 rfl 2 rfl rfl (by decide) (fun _ => rfl) (fun v12 => ?_)
  refine zz_goto (npc := 0) (tgt := 149) dX8_count_178 (by decide) ?_
  refine zz_sub (npc := 0) (lv1 := [(0, .ref (eA E 57)), (2, .int v11), (3, .int v12)]) [2, 1, 0] rfl ?_
  exact hk149 v11 v12 M
noncomputable def fX8_count_L149   : Nat → Int32 → Int32 → Mem → Option (Int32 × Mem)
  | 0, _, _, _ => none
  | n + 1, y2, y3, M => (if 10 ≤ y3 then (some (y2, M)) else (ck (inb (6 + y3) 56) (if 0 ≤ (M 58 (ix (6 + y3))) then (fX8_count_L173 (fX8_count_L149  n) y3 1 y2 M) else (fX8_count_L173 (fX8_count_L149  n) y3 0 y2 M))))
set_option maxHeartbeats 4000000 in
set_option maxRecDepth 100000 in
theorem zX8_count_L149 (E : EV) (l : Launch)     : ∀ (n : Nat) (y2 : Int32) (y3 : Int32) (M : Mem), ZZ E l RX8 cX8_count 4 (some .int) wsX8_count rmX8_count vI (fX8_count_L149 n y2 y3 M) M [(0, .ref (eA E 57)), (2, .int y2), (3, .int y3)] 149 [] := by
  intro n
  induction n with
  | zero => intros; exact zz_none
  | succ n ih =>
    intro y2 y3 M
    rw [fX8_count_L149]
    refine zz_iload_n (npc := 150) 2 rfl rfl dX8_count_149 rfl ?_
    refine zz_bipush (npc := 152) 10 (by decide) dX8_count_150 rfl ?_
    refine zz_icmp_ge (tgt := 181) (npc := 155) dX8_count_152 (by decide) rfl ?_ ?_
    · refine zz_iload_n (npc := 182) 1 rfl rfl dX8_count_181 rfl ?_
      exact zz_iret dX8_count_182
    · refine zz_iload_n (npc := 156) 1 rfl rfl dX8_count_155 rfl ?_
      refine zz_aload_n (npc := 157) 0 rfl rfl dX8_count_156 rfl ?_
      refine zz_getR (npc := 160) (i := 0) (C0 := RX8) (T := TX8) (N := 29) (by decide) (by rfl) rfl (by decide) iX8_count_8 (List.mem_of_getElem? (i := 1) rfl) rfl dX8_count_157 rfl ?_
      refine zz_bipush (npc := 162) 6 (by decide) dX8_count_160 rfl ?_
      refine zz_iload_n (npc := 163) 2 rfl rfl dX8_count_162 rfl ?_
      refine zz_iadd (npc := 164) dX8_count_163 rfl ?_
      refine zz_iald (npc := 165) (by decide) (by rfl) dX8_count_164 rfl ?_
      refine zz_if_ge (tgt := 172) (npc := 168) dX8_count_165 (by decide) rfl ?_ ?_
      · refine zz_iconst (npc := 173) 1 (by decide) dX8_count_172 rfl ?_
        refine zz_sub (npc := 0) (lv1 := [(0, .ref (eA E 57)), (3, .int y3)]) [0, 2] rfl ?_
        exact zX8_count_L173 E l (fX8_count_L149  n) ih y3 1 y2 M
      · refine zz_iconst (npc := 169) 0 (by decide) dX8_count_168 rfl ?_
        refine zz_goto (npc := 0) (tgt := 173) dX8_count_169 (by decide) ?_
        refine zz_sub (npc := 0) (lv1 := [(0, .ref (eA E 57)), (3, .int y3)]) [0, 2] rfl ?_
        exact zX8_count_L173 E l (fX8_count_L149  n) ih y3 0 y2 M
noncomputable def fX8_count  (x1 : Int32) (M : Mem) : Option (Int32 × Mem) := (if x1 = 0 then (ck (inb 0 56) (some (M 58 (ix 0), M))) else (if x1 = 1 then (ck (inb 4 56) (some (M 58 (ix 4), M))) else (if x1 = 2 then (fX8_count_L64  fu 0 0 M) else (if x1 = 3 then (ck (inb 1 56) (some (M 58 (ix 1), M))) else (if x1 = 4 then (fX8_count_L108  fu 0 0 M) else (if x1 = 5 then (some (M 57 15, M)) else (if x1 = 6 then (ck (inb 5 56) (some (M 58 (ix 5), M))) else (if x1 = 7 then (fX8_count_L149  fu 0 0 M) else (bd (fX8_finding (-1000001) M) fun r2 M1 => (some (r2, M1)))))))))))
set_option maxHeartbeats 4000000 in
set_option maxRecDepth 100000 in
theorem mtX8_count (E : EV) (l : Launch)   (x1 : Int32) (M : Mem) : CT E l yX8_count wsX8_count rmX8_count vI [.ref (eA E 57), .int x1] (fX8_count x1 M) M := by
  refine ct_of (cc := cX8_count) (nL := 4) (ret := (some .int)) (by decide +kernel) rfl (Nat.le_of_ble_eq_true rfl) ?_
  show ZZ E l RX8 cX8_count 4 (some .int) wsX8_count rmX8_count vI (fX8_count x1 M) M [(0, .ref (eA E 57)), (1, .int x1)] 0 []
  unfold fX8_count
  refine zz_iconst (npc := 1) 0 (by decide) dX8_count_0 rfl ?_
  refine zz_istore_n (npc := 2) (lv1 := [(2, .int 0), (0, .ref (eA E 57)), (1, .int x1)]) rfl dX8_count_1 rfl (by decide) rfl ?_
  refine zz_iload_n (npc := 3) 2 rfl rfl dX8_count_2 rfl ?_
  refine zz_tcase (npc := 0) (off := 45) (tgt := 48) 0 dX8_count_3 (by decide) (by decide) (by decide) (by decide) (fun _ => ?_) (fun q3_0 => ?_)
  · refine zz_aload_n (npc := 49) 1 rfl rfl dX8_count_48 rfl ?_
    refine zz_getR (npc := 52) (i := 0) (C0 := RX8) (T := TX8) (N := 29) (by decide) (by rfl) rfl (by decide) iX8_count_8 (List.mem_of_getElem? (i := 1) rfl) rfl dX8_count_49 rfl ?_
    refine zz_iconst (npc := 53) 0 (by decide) dX8_count_52 rfl ?_
    refine zz_iald (npc := 54) (by decide) (by rfl) dX8_count_53 rfl ?_
    exact zz_iret dX8_count_54
  refine zz_tcase (npc := 0) (off := 52) (tgt := 55) 1 dX8_count_3 (by decide) (by decide) (by decide) (by decide) (fun _ => ?_) (fun q3_1 => ?_)
  · refine zz_aload_n (npc := 56) 1 rfl rfl dX8_count_55 rfl ?_
    refine zz_getR (npc := 59) (i := 0) (C0 := RX8) (T := TX8) (N := 29) (by decide) (by rfl) rfl (by decide) iX8_count_8 (List.mem_of_getElem? (i := 1) rfl) rfl dX8_count_56 rfl ?_
    refine zz_iconst (npc := 60) 4 (by decide) dX8_count_59 rfl ?_
    refine zz_iald (npc := 61) (by decide) (by rfl) dX8_count_60 rfl ?_
    exact zz_iret dX8_count_61
  refine zz_tcase (npc := 0) (off := 59) (tgt := 62) 2 dX8_count_3 (by decide) (by decide) (by decide) (by decide) (fun _ => ?_) (fun q3_2 => ?_)
  · refine zz_iconst (npc := 63) 0 (by decide) dX8_count_62 rfl ?_
    refine zz_istore_n (npc := 64) (lv1 := [(3, .int 0), (2, .int 0), (0, .ref (eA E 57)), (1, .int x1)]) rfl dX8_count_63 rfl (by decide) rfl ?_
    refine zz_sub (npc := 0) (lv1 := [(0, .ref (eA E 57)), (2, .int 0), (3, .int 0)]) [2, 1, 0] rfl ?_
    exact zX8_count_L64 E l  fu 0 0 M
  refine zz_tcase (npc := 0) (off := 96) (tgt := 99) 3 dX8_count_3 (by decide) (by decide) (by decide) (by decide) (fun _ => ?_) (fun q3_3 => ?_)
  · refine zz_aload_n (npc := 100) 1 rfl rfl dX8_count_99 rfl ?_
    refine zz_getR (npc := 103) (i := 0) (C0 := RX8) (T := TX8) (N := 29) (by decide) (by rfl) rfl (by decide) iX8_count_8 (List.mem_of_getElem? (i := 1) rfl) rfl dX8_count_100 rfl ?_
    refine zz_iconst (npc := 104) 1 (by decide) dX8_count_103 rfl ?_
    refine zz_iald (npc := 105) (by decide) (by rfl) dX8_count_104 rfl ?_
    exact zz_iret dX8_count_105
  refine zz_tcase (npc := 0) (off := 103) (tgt := 106) 4 dX8_count_3 (by decide) (by decide) (by decide) (by decide) (fun _ => ?_) (fun q3_4 => ?_)
  · refine zz_iconst (npc := 107) 0 (by decide) dX8_count_106 rfl ?_
    refine zz_istore_n (npc := 108) (lv1 := [(3, .int 0), (2, .int 0), (0, .ref (eA E 57)), (1, .int x1)]) rfl dX8_count_107 rfl (by decide) rfl ?_
    refine zz_sub (npc := 0) (lv1 := [(0, .ref (eA E 57)), (2, .int 0), (3, .int 0)]) [2, 1, 0] rfl ?_
    exact zX8_count_L108 E l  fu 0 0 M
  refine zz_tcase (npc := 0) (off := 132) (tgt := 135) 5 dX8_count_3 (by decide) (by decide) (by decide) (by decide) (fun _ => ?_) (fun q3_5 => ?_)
  · refine zz_aload_n (npc := 136) 1 rfl rfl dX8_count_135 rfl ?_
    refine zz_getI (npc := 139) (i := 15) (C0 := RX8) (T := TX8) (N := 29) (by decide) (by rfl) rfl (by decide) iX8_count_8 (List.mem_of_getElem? (i := 2) rfl) rfl dX8_count_136 rfl ?_
    exact zz_iret dX8_count_139
  refine zz_tcase (npc := 0) (off := 137) (tgt := 140) 6 dX8_count_3 (by decide) (by decide) (by decide) (by decide) (fun _ => ?_) (fun q3_6 => ?_)
  · refine zz_aload_n (npc := 141) 1 rfl rfl dX8_count_140 rfl ?_
    refine zz_getR (npc := 144) (i := 0) (C0 := RX8) (T := TX8) (N := 29) (by decide) (by rfl) rfl (by decide) iX8_count_8 (List.mem_of_getElem? (i := 1) rfl) rfl dX8_count_141 rfl ?_
    refine zz_iconst (npc := 145) 5 (by decide) dX8_count_144 rfl ?_
    refine zz_iald (npc := 146) (by decide) (by rfl) dX8_count_145 rfl ?_
    exact zz_iret dX8_count_146
  refine zz_tcase (npc := 0) (off := 144) (tgt := 147) 7 dX8_count_3 (by decide) (by decide) (by decide) (by decide) (fun _ => ?_) (fun q3_7 => ?_)
  · refine zz_iconst (npc := 148) 0 (by decide) dX8_count_147 rfl ?_
    refine zz_istore_n (npc := 149) (lv1 := [(3, .int 0), (2, .int 0), (0, .ref (eA E 57)), (1, .int x1)]) rfl dX8_count_148 rfl (by decide) rfl ?_
    refine zz_sub (npc := 0) (lv1 := [(0, .ref (eA E 57)), (2, .int 0), (3, .int 0)]) [2, 1, 0] rfl ?_
    exact zX8_count_L149 E l  fu 0 0 M
  refine zz_tdef (npc := 0) (tgt := 183) dX8_count_3 (td_r _ 0 7 (by decide) (by intro k h1 h2; rcases (show k = 0 ∨ k = 1 ∨ k = 2 ∨ k = 3 ∨ k = 4 ∨ k = 5 ∨ k = 6 ∨ k = 7 by omega) with rfl | rfl | rfl | rfl | rfl | rfl | rfl | rfl <;> first | exact q3_0 | exact q3_1 | exact q3_2 | exact q3_3 | exact q3_4 | exact q3_5 | exact q3_6 | exact q3_7)) (by decide) ?_
  refine zz_aload_n (npc := 184) 1 rfl rfl dX8_count_183 rfl ?_
  refine zz_ldc (npc := 186) (-1000001) (List.mem_of_getElem? (i := 3) rfl) dX8_count_184 rfl ?_
  refine zz_callVi (npc := 189) (n := 1) (As := [.int (-1000001)]) (by decide) (by rfl) rfl gX8_count_X8_finding rfl rfl rfl (by decide +kernel) ⟨Nat.le_of_ble_eq_true rfl, Nat.le_of_ble_eq_true rfl⟩ rfl rfl (Nat.le_of_ble_eq_true rfl) (mtX8_finding E l  (-1000001) M) dX8_count_186 rfl (fun r2 M1 _ => ?_)
  exact zz_iret dX8_count_189
abbrev rmX8_status : Room := { frames := 1, cells := 0, slots := 0, locals := 22 }
theorem iX8_status_8 : ∀ w ∈ u_ws RX8 TX8 29, w ∈ wsX8_status := fun w h => List.mem_cons_of_mem _ (List.mem_append_right _ h)
noncomputable def fX8_status  (x1 : Int32) (M : Mem) : Option (Int32 × Mem) := (bd (fX8_within x1 (-1) 6 M) fun r2 M1 => (if r2 = 0 then (bd (fX8_finding (-1000001) M1) fun r4 M3 => (some (r4, M3))) else (ck (inb (x1 + 1) 8) (some (M1 61 (ix (x1 + 1)), M1)))))
set_option maxHeartbeats 4000000 in
set_option maxRecDepth 100000 in
theorem mtX8_status (E : EV) (l : Launch)   (x1 : Int32) (M : Mem) : CT E l yX8_status wsX8_status rmX8_status vI [.ref (eA E 57), .int x1] (fX8_status x1 M) M := by
  refine ct_of (cc := cX8_status) (nL := 2) (ret := (some .int)) (by decide +kernel) rfl (Nat.le_of_ble_eq_true rfl) ?_
  show ZZ E l RX8 cX8_status 2 (some .int) wsX8_status rmX8_status vI (fX8_status x1 M) M [(0, .ref (eA E 57)), (1, .int x1)] 0 []
  unfold fX8_status
  refine zz_iload_n (npc := 1) 1 rfl rfl dX8_status_0 rfl ?_
  refine zz_iconst (npc := 2) (-1) (by decide) dX8_status_1 rfl ?_
  refine zz_bipush (npc := 4) 6 (by decide) dX8_status_2 rfl ?_
  refine zz_callSi (npc := 7) (n := 3) (As := [.int x1, .int (-1), .int 6]) gX8_status_X8_within rfl rfl rfl (by decide +kernel) ⟨Nat.le_of_ble_eq_true rfl, Nat.le_of_ble_eq_true rfl⟩ rfl rfl (Nat.le_of_ble_eq_true rfl) (mtX8_within E l  x1 (-1) 6 M) dX8_status_4 rfl (fun r2 M1 _ => ?_)
  refine zz_if_eq (tgt := 21) (npc := 10) dX8_status_7 (by decide) rfl ?_ ?_
  · refine zz_aload_n (npc := 22) 0 rfl rfl dX8_status_21 rfl ?_
    refine zz_ldc (npc := 24) (-1000001) (List.mem_of_getElem? (i := 2) rfl) dX8_status_22 rfl ?_
    refine zz_callVi (npc := 27) (n := 1) (As := [.int (-1000001)]) (by decide) (by rfl) rfl gX8_status_X8_finding rfl rfl rfl (by decide +kernel) ⟨Nat.le_of_ble_eq_true rfl, Nat.le_of_ble_eq_true rfl⟩ rfl rfl (Nat.le_of_ble_eq_true rfl) (mtX8_finding E l  (-1000001) M1) dX8_status_24 rfl (fun r4 M3 _ => ?_)
    exact zz_iret dX8_status_27
  · refine zz_aload_n (npc := 11) 0 rfl rfl dX8_status_10 rfl ?_
    refine zz_getR (npc := 14) (i := 4) (C0 := RX8) (T := TX8) (N := 29) (by decide) (by rfl) rfl (by decide) iX8_status_8 (List.mem_of_getElem? (i := 1) rfl) rfl dX8_status_11 rfl ?_
    refine zz_iload_n (npc := 15) 1 rfl rfl dX8_status_14 rfl ?_
    refine zz_iconst (npc := 16) 1 (by decide) dX8_status_15 rfl ?_
    refine zz_iadd (npc := 17) dX8_status_16 rfl ?_
    refine zz_iald (npc := 18) (by decide) (by rfl) dX8_status_17 rfl ?_
    refine zz_goto (npc := 0) (tgt := 27) dX8_status_18 (by decide) ?_
    exact zz_iret dX8_status_27

/-! the constructors -/
theorem kk_one {D : va_G} {s : State} {c1 c2 : ClassId} {t : List (ClassId × FieldType)} (h : va_K D vwCl (((c1, .int) :: t) ++ [(c2, .int)]) s) : c2 = c1 := by
  have h1 := (h.2 0 (c1, .int) rfl).2
  have h2 := (h.2 (t.length + 1) (c2, .int) (by simp)).2
  have h1 : s.vm.findClass ("[" ++ FieldType.int.toString) = some c1 := h1
  have h2 : s.vm.findClass ("[" ++ FieldType.int.toString) = some c2 := h2
  exact Option.some.inj (h2.symm.trans h1)
def XNest (U : State) : Prop := ∀ q ∈ nestL, va_Nw (.methodLinkNest q.1 q.2.1 q.2.2.1 q.2.2.2) U
def XShared (U : State) : Prop := XNest U ∧ va_AO RX5 U
def XModel (ek ev : Nat → Nat) (A : Nat → Prop) (U : State) : Prop := (vk_S NS slen sbyt ek ev A U U.heap ∧ ∀ q ∈ srefL, vk_R q.1 q.2.1 q.2.2.1 (ek q.2.2.2) U) ∧ va_AO RJ0 U
set_option maxHeartbeats 8000000 in
set_option maxRecDepth 100000 in
theorem cin_X6 (l : Launch) (dC : Nat → ClassId) (dI : Nat → Nat → Nat) (cI : ClassId) (h0 : Nat) (sz : Nat) : Met l yX6_init wsX6_init ({ frames := 1, cells := 1, slots := 120, locals := 12 }) (va_Pc [.ref h0] (fun U => U.heap.size = sz ∧ va_P (dC, dI) vwCl [(h0, .inr (6, [.null, .int 0]))] U.heap ∧ va_K (dC, dI) vwCl [(cI, .int)] U ∧ va_D (fun _ => True) [(h0, .inr (6, [.null, .int 0]))])) (va_Qv (fun (_ : Unit) => True) (fun (_ : Unit) (t : State) => ∃ (q1 : Nat), va_P (dC, dI) vwCl [(h0, .inr (6, [.ref q1, .int 0])), (q1, .inl (cI, 120, .inl (fun _ => 0)))] t.heap ∧ va_K (dC, dI) vwCl [(cI, .int)] t ∧ va_D (va_A [(h0, .inr (6, [.null, .int 0]))] sz) [(h0, .inr (6, [.ref q1, .int 0])), (q1, .inl (cI, 120, .inl (fun _ => 0)))]) (va_A [(h0, .inr (6, [.null, .int 0]))] sz)) 1 120 (va_A [(h0, .inr (6, [.null, .int 0]))] sz) := by
  refine Met.ofW (cc := cX6_init) (maxL := 1) (ret := none) (by decide) rfl ?_
  intro p e s m args below meth c s₁ B hml hv
  obtain ⟨rfl, hsz, hP, hK, hD0⟩ := hv
  have hx := B.exec
  have hb := B.bytes
  have hr := B.returns
  have hts := atoms_spec (ws := wsX6_init) B.pre
  have hown : s.vm.findClass RX6 = some m.cls := findClass_of_methodNamed B.named
  have hlocks := B.notSynchronized
  have hin : meth.name = "<init>" := (name_of_methodNamed B.named B.method).1
  subst hsz
  have hD := hD0.self (sz := s.heap.size)
  generalize hAe : va_A [(h0, .inr (6, [.null, .int 0]))] s.heap.size = A at hD ⊢
  have hA : ∀ q : Nat, s.heap.size ≤ q → A q := fun q h => by rw [← hAe]; exact Or.inr h
  have hS : va_S A s.heap s.heap [] := va_S.rf
  have hP : va_P (dC, dI) vwCl [(h0, .inr (6, [.null, .int 0]))] s.heap := hP
  have hl := lv_entry ([.ref h0]) (n := 1) (Nat.le_of_ble_eq_true rfl)
  rw [lg_entry_eq]
  generalize (lg_sl ([.ref h0]) ++ List.replicate (1 - (lg_sl ([.ref h0])).length) Slot.unset).toArray = ls at hl ⊢
  have hl : lv_has ls 1 [(0, .ref h0)] := hl
  refine lv_aload_n hx hb dX6_init_0 rfl (lv_at hl 0 rfl) ?_
  refine W.objInit hx hb hown (hts _ (List.mem_of_getElem? (i := 1) rfl)) (hts _ (List.mem_of_getElem? (i := 2) rfl)) (hts _ (List.mem_of_getElem? (i := 3) rfl)) rfl (by rw [hml]; exact hl.1) rfl dX6_init_1 (Nat.le_of_ble_eq_true rfl) (Nat.le_of_ble_eq_true rfl) ?_
  refine W.eq (g2 := F0 m 4 ls []) rfl ?_
  refine lv_aload_n hx hb dX6_init_4 rfl (lv_at hl 0 rfl) ?_
  refine lv_bipush (v := 120) hx hb dX6_init_5 (by decide) ?_
  refine va_newa (atype := .int) (a0 := (120, .inl (fun _ => 0))) (N' := 120) hx hb (hts _ (List.mem_of_getElem? (i := 4) rfl)) rfl hK hP hD hS hA (fun _ => rfl) (by decide) (by decide) (Nat.le_of_ble_eq_true rfl) (Nat.le_of_ble_eq_true rfl) (Nat.le_of_ble_eq_true rfl) dX6_init_7 (fun q7 cA H hK1 hP hD hS => ?_)
  have eA1 : cA = cI := kk_one hK1
  rw [eA1] at hP hD
  have hP : va_P (dC, dI) vwCl [(h0, .inr (6, [.null, .int 0])), (q7, .inl (cI, 120, .inl (fun _ => 0)))] H := hP
  have hD : va_D A [(h0, .inr (6, [.null, .int 0])), (q7, .inl (cI, 120, .inl (fun _ => 0)))] := hD
  refine W.widen (k := 1) (n := 120) (Nat.le_of_ble_eq_true rfl) (Nat.le_of_ble_eq_true rfl) ?_
  refine va_putF (D := (dC, dI)) (ci := 6) (v := .ref q7) (ty := .array .int) (C := RX6) (T := TX6) (N := 2) hx hb hts (fun w h => List.mem_cons_of_mem _ (List.mem_append_right _ h)) tyX6 tyX6_ok nmX6 hown hK hP hD hS 0 rfl rfl 0 (by decide) (hts _ (List.mem_of_getElem? (i := 5) rfl)) (fun _ h9 => h9) rfl hin rfl (by decide +kernel) rfl rfl (Nat.le_of_ble_eq_true rfl) dX6_init_9 (fun H locs hP hD hS => ?_)
  have hP : va_P (dC, dI) vwCl [(h0, .inr (6, [.ref q7, .int 0])), (q7, .inl (cI, 120, .inl (fun _ => 0)))] H := hP
  have hD : va_D A [(h0, .inr (6, [.ref q7, .int 0])), (q7, .inl (cI, 120, .inl (fun _ => 0)))] := hD
  refine lv_aload_n hx hb dX6_init_12 rfl (lv_at hl 0 rfl) ?_
  refine lv_iconst (v := 0) hx hb dX6_init_13 (by decide) ?_
  refine va_put (D := (dC, dI)) (ci := 6) (v := .int 0) (ty := .int) (C := RX6) (T := TX6) (N := 2) hx hb hts (fun w h => List.mem_cons_of_mem _ (List.mem_append_right _ h)) tyX6 tyX6_ok nmX6 hown hK hP hD hS 0 rfl rfl 1 (by decide) (hts _ (List.mem_of_getElem? (i := 6) rfl)) (fun _ h9 => h9) rfl (by decide +kernel) rfl rfl (Nat.le_of_ble_eq_true rfl) dX6_init_14 (fun H locs hP hD hS => ?_)
  have hP : va_P (dC, dI) vwCl [(h0, .inr (6, [.ref q7, .int 0])), (q7, .inl (cI, 120, .inl (fun _ => 0)))] H := hP
  have hD : va_D A [(h0, .inr (6, [.ref q7, .int 0])), (q7, .inl (cI, 120, .inl (fun _ => 0)))] := hD
  have hP9 := hP.sub (ws' := [(h0, .inr (6, [.ref q7, .int 0])), (q7, .inl (cI, 120, .inl (fun _ => 0)))]) [0, 1] rfl
  have hD9 := hD.sub (ws' := [(h0, .inr (6, [.ref q7, .int 0])), (q7, .inl (cI, 120, .inl (fun _ => 0)))]) [0, 1] (by decide) rfl
  refine W.widen (k := 1) (n := 120) (Nat.le_of_ble_eq_true rfl) (Nat.le_of_ble_eq_true rfl) ?_
  exact W.vret hx hb hr (fun t ht hW => ⟨⟨(), rfl, trivial, q7, by rw [ht]; exact hP9, va_K.moved hW.alike hK, hD9⟩, hS.F ht⟩) hS.2.2 dX6_init_17
set_option maxHeartbeats 8000000 in
set_option maxRecDepth 100000 in
theorem cin_X5 (l : Launch) (dC : Nat → ClassId) (dI : Nat → Nat → Nat) (cI : ClassId) (h0 : Nat) (sz : Nat) : Met l yX5_init wsX5_init ({ frames := 1, cells := 1, slots := 40, locals := 12 }) (va_Pc [.ref h0] (fun U => U.heap.size = sz ∧ va_P (dC, dI) vwCl [(h0, .inr (5, [.null, .int 0, .int 0]))] U.heap ∧ va_K (dC, dI) vwCl [(cI, .int)] U ∧ va_D (fun _ => True) [(h0, .inr (5, [.null, .int 0, .int 0]))])) (va_Qv (fun (_ : Unit) => True) (fun (_ : Unit) (t : State) => ∃ (q1 : Nat), va_P (dC, dI) vwCl [(h0, .inr (5, [.ref q1, .int 0, .int 0])), (q1, .inl (cI, 40, .inl (fun _ => 0)))] t.heap ∧ va_K (dC, dI) vwCl [(cI, .int)] t ∧ va_D (va_A [(h0, .inr (5, [.null, .int 0, .int 0]))] sz) [(h0, .inr (5, [.ref q1, .int 0, .int 0])), (q1, .inl (cI, 40, .inl (fun _ => 0)))]) (va_A [(h0, .inr (5, [.null, .int 0, .int 0]))] sz)) 1 40 (va_A [(h0, .inr (5, [.null, .int 0, .int 0]))] sz) := by
  refine Met.ofW (cc := cX5_init) (maxL := 1) (ret := none) (by decide) rfl ?_
  intro p e s m args below meth c s₁ B hml hv
  obtain ⟨rfl, hsz, hP, hK, hD0⟩ := hv
  have hx := B.exec
  have hb := B.bytes
  have hr := B.returns
  have hts := atoms_spec (ws := wsX5_init) B.pre
  have hown : s.vm.findClass RX5 = some m.cls := findClass_of_methodNamed B.named
  have hlocks := B.notSynchronized
  have hin : meth.name = "<init>" := (name_of_methodNamed B.named B.method).1
  subst hsz
  have hD := hD0.self (sz := s.heap.size)
  generalize hAe : va_A [(h0, .inr (5, [.null, .int 0, .int 0]))] s.heap.size = A at hD ⊢
  have hA : ∀ q : Nat, s.heap.size ≤ q → A q := fun q h => by rw [← hAe]; exact Or.inr h
  have hS : va_S A s.heap s.heap [] := va_S.rf
  have hP : va_P (dC, dI) vwCl [(h0, .inr (5, [.null, .int 0, .int 0]))] s.heap := hP
  have hl := lv_entry ([.ref h0]) (n := 1) (Nat.le_of_ble_eq_true rfl)
  rw [lg_entry_eq]
  generalize (lg_sl ([.ref h0]) ++ List.replicate (1 - (lg_sl ([.ref h0])).length) Slot.unset).toArray = ls at hl ⊢
  have hl : lv_has ls 1 [(0, .ref h0)] := hl
  refine lv_aload_n hx hb dX5_init_0 rfl (lv_at hl 0 rfl) ?_
  refine W.objInit hx hb hown (hts _ (List.mem_of_getElem? (i := 1) rfl)) (hts _ (List.mem_of_getElem? (i := 2) rfl)) (hts _ (List.mem_of_getElem? (i := 3) rfl)) rfl (by rw [hml]; exact hl.1) rfl dX5_init_1 (Nat.le_of_ble_eq_true rfl) (Nat.le_of_ble_eq_true rfl) ?_
  refine W.eq (g2 := F0 m 4 ls []) rfl ?_
  refine lv_aload_n hx hb dX5_init_4 rfl (lv_at hl 0 rfl) ?_
  refine lv_bipush (v := 40) hx hb dX5_init_5 (by decide) ?_
  refine va_newa (atype := .int) (a0 := (40, .inl (fun _ => 0))) (N' := 40) hx hb (hts _ (List.mem_of_getElem? (i := 4) rfl)) rfl hK hP hD hS hA (fun _ => rfl) (by decide) (by decide) (Nat.le_of_ble_eq_true rfl) (Nat.le_of_ble_eq_true rfl) (Nat.le_of_ble_eq_true rfl) dX5_init_7 (fun q7 cA H hK1 hP hD hS => ?_)
  have eA1 : cA = cI := kk_one hK1
  rw [eA1] at hP hD
  have hP : va_P (dC, dI) vwCl [(h0, .inr (5, [.null, .int 0, .int 0])), (q7, .inl (cI, 40, .inl (fun _ => 0)))] H := hP
  have hD : va_D A [(h0, .inr (5, [.null, .int 0, .int 0])), (q7, .inl (cI, 40, .inl (fun _ => 0)))] := hD
  refine W.widen (k := 1) (n := 40) (Nat.le_of_ble_eq_true rfl) (Nat.le_of_ble_eq_true rfl) ?_
  refine va_putF (D := (dC, dI)) (ci := 5) (v := .ref q7) (ty := .array .int) (C := RX5) (T := TX5) (N := 3) hx hb hts (fun w h => List.mem_cons_of_mem _ (List.mem_append_right _ h)) tyX5 tyX5_ok nmX5 hown hK hP hD hS 0 rfl rfl 0 (by decide) (hts _ (List.mem_of_getElem? (i := 5) rfl)) (fun _ h9 => h9) rfl hin rfl (by decide +kernel) rfl rfl (Nat.le_of_ble_eq_true rfl) dX5_init_9 (fun H locs hP hD hS => ?_)
  have hP : va_P (dC, dI) vwCl [(h0, .inr (5, [.ref q7, .int 0, .int 0])), (q7, .inl (cI, 40, .inl (fun _ => 0)))] H := hP
  have hD : va_D A [(h0, .inr (5, [.ref q7, .int 0, .int 0])), (q7, .inl (cI, 40, .inl (fun _ => 0)))] := hD
  refine lv_aload_n hx hb dX5_init_12 rfl (lv_at hl 0 rfl) ?_
  refine lv_iconst (v := 0) hx hb dX5_init_13 (by decide) ?_
  refine va_put (D := (dC, dI)) (ci := 5) (v := .int 0) (ty := .int) (C := RX5) (T := TX5) (N := 3) hx hb hts (fun w h => List.mem_cons_of_mem _ (List.mem_append_right _ h)) tyX5 tyX5_ok nmX5 hown hK hP hD hS 0 rfl rfl 1 (by decide) (hts _ (List.mem_of_getElem? (i := 6) rfl)) (fun _ h9 => h9) rfl (by decide +kernel) rfl rfl (Nat.le_of_ble_eq_true rfl) dX5_init_14 (fun H locs hP hD hS => ?_)
  have hP : va_P (dC, dI) vwCl [(h0, .inr (5, [.ref q7, .int 0, .int 0])), (q7, .inl (cI, 40, .inl (fun _ => 0)))] H := hP
  have hD : va_D A [(h0, .inr (5, [.ref q7, .int 0, .int 0])), (q7, .inl (cI, 40, .inl (fun _ => 0)))] := hD
  refine lv_aload_n hx hb dX5_init_17 rfl (lv_at hl 0 rfl) ?_
  refine lv_iconst (v := 0) hx hb dX5_init_18 (by decide) ?_
  refine va_put (D := (dC, dI)) (ci := 5) (v := .int 0) (ty := .int) (C := RX5) (T := TX5) (N := 3) hx hb hts (fun w h => List.mem_cons_of_mem _ (List.mem_append_right _ h)) tyX5 tyX5_ok nmX5 hown hK hP hD hS 0 rfl rfl 2 (by decide) (hts _ (List.mem_of_getElem? (i := 7) rfl)) (fun _ h9 => h9) rfl (by decide +kernel) rfl rfl (Nat.le_of_ble_eq_true rfl) dX5_init_19 (fun H locs hP hD hS => ?_)
  have hP : va_P (dC, dI) vwCl [(h0, .inr (5, [.ref q7, .int 0, .int 0])), (q7, .inl (cI, 40, .inl (fun _ => 0)))] H := hP
  have hD : va_D A [(h0, .inr (5, [.ref q7, .int 0, .int 0])), (q7, .inl (cI, 40, .inl (fun _ => 0)))] := hD
  have hP9 := hP.sub (ws' := [(h0, .inr (5, [.ref q7, .int 0, .int 0])), (q7, .inl (cI, 40, .inl (fun _ => 0)))]) [0, 1] rfl
  have hD9 := hD.sub (ws' := [(h0, .inr (5, [.ref q7, .int 0, .int 0])), (q7, .inl (cI, 40, .inl (fun _ => 0)))]) [0, 1] (by decide) rfl
  refine W.widen (k := 1) (n := 40) (Nat.le_of_ble_eq_true rfl) (Nat.le_of_ble_eq_true rfl) ?_
  exact W.vret hx hb hr (fun t ht hW => ⟨⟨(), rfl, trivial, q7, by rw [ht]; exact hP9, va_K.moved hW.alike hK, hD9⟩, hS.F ht⟩) hS.2.2 dX5_init_22
set_option maxHeartbeats 8000000 in
set_option maxRecDepth 100000 in
theorem cin_X0 (l : Launch) (dC : Nat → ClassId) (dI : Nat → Nat → Nat) (cI : ClassId) (h0 : Nat) (sz : Nat) : Met l yX0_init wsX0_init ({ frames := 1, cells := 4, slots := 40, locals := 12 }) (va_Pc [.ref h0] (fun U => U.heap.size = sz ∧ va_P (dC, dI) vwCl [(h0, .inr (0, [.null, .null, .null, .null, .int 0, .int 0]))] U.heap ∧ va_K (dC, dI) vwCl [(cI, .int)] U ∧ va_D (fun _ => True) [(h0, .inr (0, [.null, .null, .null, .null, .int 0, .int 0]))])) (va_Qv (fun (_ : Unit) => True) (fun (_ : Unit) (t : State) => ∃ (q1 q2 q3 q4 : Nat), va_P (dC, dI) vwCl [(h0, .inr (0, [.ref q1, .ref q2, .ref q3, .ref q4, .int 0, .int 0])), (q1, .inl (cI, 2, .inl (fun _ => 0))), (q2, .inl (cI, 2, .inl (fun _ => 0))), (q3, .inl (cI, 2, .inl (fun _ => 0))), (q4, .inl (cI, 34, .inl (fun _ => 0)))] t.heap ∧ va_K (dC, dI) vwCl [(cI, .int)] t ∧ va_D (va_A [(h0, .inr (0, [.null, .null, .null, .null, .int 0, .int 0]))] sz) [(h0, .inr (0, [.ref q1, .ref q2, .ref q3, .ref q4, .int 0, .int 0])), (q1, .inl (cI, 2, .inl (fun _ => 0))), (q2, .inl (cI, 2, .inl (fun _ => 0))), (q3, .inl (cI, 2, .inl (fun _ => 0))), (q4, .inl (cI, 34, .inl (fun _ => 0)))]) (va_A [(h0, .inr (0, [.null, .null, .null, .null, .int 0, .int 0]))] sz)) 4 40 (va_A [(h0, .inr (0, [.null, .null, .null, .null, .int 0, .int 0]))] sz) := by
  refine Met.ofW (cc := cX0_init) (maxL := 1) (ret := none) (by decide) rfl ?_
  intro p e s m args below meth c s₁ B hml hv
  obtain ⟨rfl, hsz, hP, hK, hD0⟩ := hv
  have hx := B.exec
  have hb := B.bytes
  have hr := B.returns
  have hts := atoms_spec (ws := wsX0_init) B.pre
  have hown : s.vm.findClass RX0 = some m.cls := findClass_of_methodNamed B.named
  have hlocks := B.notSynchronized
  have hin : meth.name = "<init>" := (name_of_methodNamed B.named B.method).1
  subst hsz
  have hD := hD0.self (sz := s.heap.size)
  generalize hAe : va_A [(h0, .inr (0, [.null, .null, .null, .null, .int 0, .int 0]))] s.heap.size = A at hD ⊢
  have hA : ∀ q : Nat, s.heap.size ≤ q → A q := fun q h => by rw [← hAe]; exact Or.inr h
  have hS : va_S A s.heap s.heap [] := va_S.rf
  have hP : va_P (dC, dI) vwCl [(h0, .inr (0, [.null, .null, .null, .null, .int 0, .int 0]))] s.heap := hP
  have hl := lv_entry ([.ref h0]) (n := 1) (Nat.le_of_ble_eq_true rfl)
  rw [lg_entry_eq]
  generalize (lg_sl ([.ref h0]) ++ List.replicate (1 - (lg_sl ([.ref h0])).length) Slot.unset).toArray = ls at hl ⊢
  have hl : lv_has ls 1 [(0, .ref h0)] := hl
  refine lv_aload_n hx hb dX0_init_0 rfl (lv_at hl 0 rfl) ?_
  refine W.objInit hx hb hown (hts _ (List.mem_of_getElem? (i := 1) rfl)) (hts _ (List.mem_of_getElem? (i := 2) rfl)) (hts _ (List.mem_of_getElem? (i := 3) rfl)) rfl (by rw [hml]; exact hl.1) rfl dX0_init_1 (Nat.le_of_ble_eq_true rfl) (Nat.le_of_ble_eq_true rfl) ?_
  refine W.eq (g2 := F0 m 4 ls []) rfl ?_
  refine lv_aload_n hx hb dX0_init_4 rfl (lv_at hl 0 rfl) ?_
  refine lv_iconst (v := 2) hx hb dX0_init_5 (by decide) ?_
  refine va_newa (atype := .int) (a0 := (2, .inl (fun _ => 0))) (N' := 2) hx hb (hts _ (List.mem_of_getElem? (i := 4) rfl)) rfl hK hP hD hS hA (fun _ => rfl) (by decide) (by decide) (Nat.le_of_ble_eq_true rfl) (Nat.le_of_ble_eq_true rfl) (Nat.le_of_ble_eq_true rfl) dX0_init_6 (fun q6 cA H hK1 hP hD hS => ?_)
  have eA1 : cA = cI := kk_one hK1
  rw [eA1] at hP hD
  have hP : va_P (dC, dI) vwCl [(h0, .inr (0, [.null, .null, .null, .null, .int 0, .int 0])), (q6, .inl (cI, 2, .inl (fun _ => 0)))] H := hP
  have hD : va_D A [(h0, .inr (0, [.null, .null, .null, .null, .int 0, .int 0])), (q6, .inl (cI, 2, .inl (fun _ => 0)))] := hD
  refine W.widen (k := 1) (n := 2) (Nat.le_of_ble_eq_true rfl) (Nat.le_of_ble_eq_true rfl) ?_
  refine va_putF (D := (dC, dI)) (ci := 0) (v := .ref q6) (ty := .array .int) (C := RX0) (T := TX0) (N := 6) hx hb hts (fun w h => List.mem_cons_of_mem _ (List.mem_append_right _ h)) tyX0 tyX0_ok nmX0 hown hK hP hD hS 0 rfl rfl 0 (by decide) (hts _ (List.mem_of_getElem? (i := 5) rfl)) (fun _ h9 => h9) rfl hin rfl (by decide +kernel) rfl rfl (Nat.le_of_ble_eq_true rfl) dX0_init_8 (fun H locs hP hD hS => ?_)
  have hP : va_P (dC, dI) vwCl [(h0, .inr (0, [.ref q6, .null, .null, .null, .int 0, .int 0])), (q6, .inl (cI, 2, .inl (fun _ => 0)))] H := hP
  have hD : va_D A [(h0, .inr (0, [.ref q6, .null, .null, .null, .int 0, .int 0])), (q6, .inl (cI, 2, .inl (fun _ => 0)))] := hD
  refine lv_aload_n hx hb dX0_init_11 rfl (lv_at hl 0 rfl) ?_
  refine lv_iconst (v := 2) hx hb dX0_init_12 (by decide) ?_
  refine va_newa (atype := .int) (a0 := (2, .inl (fun _ => 0))) (N' := 2) hx hb (hts _ (List.mem_of_getElem? (i := 4) rfl)) rfl hK hP hD hS hA (fun _ => rfl) (by decide) (by decide) (Nat.le_of_ble_eq_true rfl) (Nat.le_of_ble_eq_true rfl) (Nat.le_of_ble_eq_true rfl) dX0_init_13 (fun q13 cA H hK1 hP hD hS => ?_)
  have eA1 : cA = cI := kk_one hK1
  rw [eA1] at hP hD
  have hP : va_P (dC, dI) vwCl [(h0, .inr (0, [.ref q6, .null, .null, .null, .int 0, .int 0])), (q6, .inl (cI, 2, .inl (fun _ => 0))), (q13, .inl (cI, 2, .inl (fun _ => 0)))] H := hP
  have hD : va_D A [(h0, .inr (0, [.ref q6, .null, .null, .null, .int 0, .int 0])), (q6, .inl (cI, 2, .inl (fun _ => 0))), (q13, .inl (cI, 2, .inl (fun _ => 0)))] := hD
  refine W.widen (k := 2) (n := 4) (Nat.le_of_ble_eq_true rfl) (Nat.le_of_ble_eq_true rfl) ?_
  refine va_putF (D := (dC, dI)) (ci := 0) (v := .ref q13) (ty := .array .int) (C := RX0) (T := TX0) (N := 6) hx hb hts (fun w h => List.mem_cons_of_mem _ (List.mem_append_right _ h)) tyX0 tyX0_ok nmX0 hown hK hP hD hS 0 rfl rfl 1 (by decide) (hts _ (List.mem_of_getElem? (i := 6) rfl)) (fun _ h9 => h9) rfl hin rfl (by decide +kernel) rfl rfl (Nat.le_of_ble_eq_true rfl) dX0_init_15 (fun H locs hP hD hS => ?_)
  have hP : va_P (dC, dI) vwCl [(h0, .inr (0, [.ref q6, .ref q13, .null, .null, .int 0, .int 0])), (q6, .inl (cI, 2, .inl (fun _ => 0))), (q13, .inl (cI, 2, .inl (fun _ => 0)))] H := hP
  have hD : va_D A [(h0, .inr (0, [.ref q6, .ref q13, .null, .null, .int 0, .int 0])), (q6, .inl (cI, 2, .inl (fun _ => 0))), (q13, .inl (cI, 2, .inl (fun _ => 0)))] := hD
  refine lv_aload_n hx hb dX0_init_18 rfl (lv_at hl 0 rfl) ?_
  refine lv_iconst (v := 2) hx hb dX0_init_19 (by decide) ?_
  refine va_newa (atype := .int) (a0 := (2, .inl (fun _ => 0))) (N' := 2) hx hb (hts _ (List.mem_of_getElem? (i := 4) rfl)) rfl hK hP hD hS hA (fun _ => rfl) (by decide) (by decide) (Nat.le_of_ble_eq_true rfl) (Nat.le_of_ble_eq_true rfl) (Nat.le_of_ble_eq_true rfl) dX0_init_20 (fun q20 cA H hK1 hP hD hS => ?_)
  have eA1 : cA = cI := kk_one hK1
  rw [eA1] at hP hD
  have hP : va_P (dC, dI) vwCl [(h0, .inr (0, [.ref q6, .ref q13, .null, .null, .int 0, .int 0])), (q6, .inl (cI, 2, .inl (fun _ => 0))), (q13, .inl (cI, 2, .inl (fun _ => 0))), (q20, .inl (cI, 2, .inl (fun _ => 0)))] H := hP
  have hD : va_D A [(h0, .inr (0, [.ref q6, .ref q13, .null, .null, .int 0, .int 0])), (q6, .inl (cI, 2, .inl (fun _ => 0))), (q13, .inl (cI, 2, .inl (fun _ => 0))), (q20, .inl (cI, 2, .inl (fun _ => 0)))] := hD
  refine W.widen (k := 3) (n := 6) (Nat.le_of_ble_eq_true rfl) (Nat.le_of_ble_eq_true rfl) ?_
  refine va_putF (D := (dC, dI)) (ci := 0) (v := .ref q20) (ty := .array .int) (C := RX0) (T := TX0) (N := 6) hx hb hts (fun w h => List.mem_cons_of_mem _ (List.mem_append_right _ h)) tyX0 tyX0_ok nmX0 hown hK hP hD hS 0 rfl rfl 2 (by decide) (hts _ (List.mem_of_getElem? (i := 7) rfl)) (fun _ h9 => h9) rfl hin rfl (by decide +kernel) rfl rfl (Nat.le_of_ble_eq_true rfl) dX0_init_22 (fun H locs hP hD hS => ?_)
  have hP : va_P (dC, dI) vwCl [(h0, .inr (0, [.ref q6, .ref q13, .ref q20, .null, .int 0, .int 0])), (q6, .inl (cI, 2, .inl (fun _ => 0))), (q13, .inl (cI, 2, .inl (fun _ => 0))), (q20, .inl (cI, 2, .inl (fun _ => 0)))] H := hP
  have hD : va_D A [(h0, .inr (0, [.ref q6, .ref q13, .ref q20, .null, .int 0, .int 0])), (q6, .inl (cI, 2, .inl (fun _ => 0))), (q13, .inl (cI, 2, .inl (fun _ => 0))), (q20, .inl (cI, 2, .inl (fun _ => 0)))] := hD
  refine lv_aload_n hx hb dX0_init_25 rfl (lv_at hl 0 rfl) ?_
  refine lv_bipush (v := 34) hx hb dX0_init_26 (by decide) ?_
  refine va_newa (atype := .int) (a0 := (34, .inl (fun _ => 0))) (N' := 34) hx hb (hts _ (List.mem_of_getElem? (i := 4) rfl)) rfl hK hP hD hS hA (fun _ => rfl) (by decide) (by decide) (Nat.le_of_ble_eq_true rfl) (Nat.le_of_ble_eq_true rfl) (Nat.le_of_ble_eq_true rfl) dX0_init_28 (fun q28 cA H hK1 hP hD hS => ?_)
  have eA1 : cA = cI := kk_one hK1
  rw [eA1] at hP hD
  have hP : va_P (dC, dI) vwCl [(h0, .inr (0, [.ref q6, .ref q13, .ref q20, .null, .int 0, .int 0])), (q6, .inl (cI, 2, .inl (fun _ => 0))), (q13, .inl (cI, 2, .inl (fun _ => 0))), (q20, .inl (cI, 2, .inl (fun _ => 0))), (q28, .inl (cI, 34, .inl (fun _ => 0)))] H := hP
  have hD : va_D A [(h0, .inr (0, [.ref q6, .ref q13, .ref q20, .null, .int 0, .int 0])), (q6, .inl (cI, 2, .inl (fun _ => 0))), (q13, .inl (cI, 2, .inl (fun _ => 0))), (q20, .inl (cI, 2, .inl (fun _ => 0))), (q28, .inl (cI, 34, .inl (fun _ => 0)))] := hD
  refine W.widen (k := 4) (n := 40) (Nat.le_of_ble_eq_true rfl) (Nat.le_of_ble_eq_true rfl) ?_
  refine va_putF (D := (dC, dI)) (ci := 0) (v := .ref q28) (ty := .array .int) (C := RX0) (T := TX0) (N := 6) hx hb hts (fun w h => List.mem_cons_of_mem _ (List.mem_append_right _ h)) tyX0 tyX0_ok nmX0 hown hK hP hD hS 0 rfl rfl 3 (by decide) (hts _ (List.mem_of_getElem? (i := 8) rfl)) (fun _ h9 => h9) rfl hin rfl (by decide +kernel) rfl rfl (Nat.le_of_ble_eq_true rfl) dX0_init_30 (fun H locs hP hD hS => ?_)
  have hP : va_P (dC, dI) vwCl [(h0, .inr (0, [.ref q6, .ref q13, .ref q20, .ref q28, .int 0, .int 0])), (q6, .inl (cI, 2, .inl (fun _ => 0))), (q13, .inl (cI, 2, .inl (fun _ => 0))), (q20, .inl (cI, 2, .inl (fun _ => 0))), (q28, .inl (cI, 34, .inl (fun _ => 0)))] H := hP
  have hD : va_D A [(h0, .inr (0, [.ref q6, .ref q13, .ref q20, .ref q28, .int 0, .int 0])), (q6, .inl (cI, 2, .inl (fun _ => 0))), (q13, .inl (cI, 2, .inl (fun _ => 0))), (q20, .inl (cI, 2, .inl (fun _ => 0))), (q28, .inl (cI, 34, .inl (fun _ => 0)))] := hD
  refine lv_aload_n hx hb dX0_init_33 rfl (lv_at hl 0 rfl) ?_
  refine lv_iconst (v := 0) hx hb dX0_init_34 (by decide) ?_
  refine va_put (D := (dC, dI)) (ci := 0) (v := .int 0) (ty := .int) (C := RX0) (T := TX0) (N := 6) hx hb hts (fun w h => List.mem_cons_of_mem _ (List.mem_append_right _ h)) tyX0 tyX0_ok nmX0 hown hK hP hD hS 0 rfl rfl 4 (by decide) (hts _ (List.mem_of_getElem? (i := 9) rfl)) (fun _ h9 => h9) rfl (by decide +kernel) rfl rfl (Nat.le_of_ble_eq_true rfl) dX0_init_35 (fun H locs hP hD hS => ?_)
  have hP : va_P (dC, dI) vwCl [(h0, .inr (0, [.ref q6, .ref q13, .ref q20, .ref q28, .int 0, .int 0])), (q6, .inl (cI, 2, .inl (fun _ => 0))), (q13, .inl (cI, 2, .inl (fun _ => 0))), (q20, .inl (cI, 2, .inl (fun _ => 0))), (q28, .inl (cI, 34, .inl (fun _ => 0)))] H := hP
  have hD : va_D A [(h0, .inr (0, [.ref q6, .ref q13, .ref q20, .ref q28, .int 0, .int 0])), (q6, .inl (cI, 2, .inl (fun _ => 0))), (q13, .inl (cI, 2, .inl (fun _ => 0))), (q20, .inl (cI, 2, .inl (fun _ => 0))), (q28, .inl (cI, 34, .inl (fun _ => 0)))] := hD
  refine lv_aload_n hx hb dX0_init_38 rfl (lv_at hl 0 rfl) ?_
  refine lv_iconst (v := 0) hx hb dX0_init_39 (by decide) ?_
  refine va_put (D := (dC, dI)) (ci := 0) (v := .int 0) (ty := .int) (C := RX0) (T := TX0) (N := 6) hx hb hts (fun w h => List.mem_cons_of_mem _ (List.mem_append_right _ h)) tyX0 tyX0_ok nmX0 hown hK hP hD hS 0 rfl rfl 5 (by decide) (hts _ (List.mem_of_getElem? (i := 10) rfl)) (fun _ h9 => h9) rfl (by decide +kernel) rfl rfl (Nat.le_of_ble_eq_true rfl) dX0_init_40 (fun H locs hP hD hS => ?_)
  have hP : va_P (dC, dI) vwCl [(h0, .inr (0, [.ref q6, .ref q13, .ref q20, .ref q28, .int 0, .int 0])), (q6, .inl (cI, 2, .inl (fun _ => 0))), (q13, .inl (cI, 2, .inl (fun _ => 0))), (q20, .inl (cI, 2, .inl (fun _ => 0))), (q28, .inl (cI, 34, .inl (fun _ => 0)))] H := hP
  have hD : va_D A [(h0, .inr (0, [.ref q6, .ref q13, .ref q20, .ref q28, .int 0, .int 0])), (q6, .inl (cI, 2, .inl (fun _ => 0))), (q13, .inl (cI, 2, .inl (fun _ => 0))), (q20, .inl (cI, 2, .inl (fun _ => 0))), (q28, .inl (cI, 34, .inl (fun _ => 0)))] := hD
  have hP9 := hP.sub (ws' := [(h0, .inr (0, [.ref q6, .ref q13, .ref q20, .ref q28, .int 0, .int 0])), (q6, .inl (cI, 2, .inl (fun _ => 0))), (q13, .inl (cI, 2, .inl (fun _ => 0))), (q20, .inl (cI, 2, .inl (fun _ => 0))), (q28, .inl (cI, 34, .inl (fun _ => 0)))]) [0, 1, 2, 3, 4] rfl
  have hD9 := hD.sub (ws' := [(h0, .inr (0, [.ref q6, .ref q13, .ref q20, .ref q28, .int 0, .int 0])), (q6, .inl (cI, 2, .inl (fun _ => 0))), (q13, .inl (cI, 2, .inl (fun _ => 0))), (q20, .inl (cI, 2, .inl (fun _ => 0))), (q28, .inl (cI, 34, .inl (fun _ => 0)))]) [0, 1, 2, 3, 4] (by decide) rfl
  refine W.widen (k := 4) (n := 40) (Nat.le_of_ble_eq_true rfl) (Nat.le_of_ble_eq_true rfl) ?_
  exact W.vret hx hb hr (fun t ht hW => ⟨⟨(), rfl, trivial, q6, q13, q20, q28, by rw [ht]; exact hP9, va_K.moved hW.alike hK, hD9⟩, hS.F ht⟩) hS.2.2 dX0_init_43
set_option maxHeartbeats 8000000 in
set_option maxRecDepth 100000 in
theorem cin_X2 (l : Launch) (dC : Nat → ClassId) (dI : Nat → Nat → Nat) (cI : ClassId) (h0 : Nat) (sz : Nat) : Met l yX2_init wsX2_init ({ frames := 1, cells := 3, slots := 576, locals := 12 }) (va_Pc [.ref h0] (fun U => U.heap.size = sz ∧ va_P (dC, dI) vwCl [(h0, .inr (2, [.null, .null, .null]))] U.heap ∧ va_K (dC, dI) vwCl [(cI, .int)] U ∧ va_D (fun _ => True) [(h0, .inr (2, [.null, .null, .null]))])) (va_Qv (fun (_ : Unit) => True) (fun (_ : Unit) (t : State) => ∃ (q1 q2 q3 : Nat), va_P (dC, dI) vwCl [(h0, .inr (2, [.ref q1, .ref q2, .ref q3])), (q1, .inl (cI, 64, .inl (fun _ => 0))), (q2, .inl (cI, 256, .inl (fun _ => 0))), (q3, .inl (cI, 256, .inl (fun _ => 0)))] t.heap ∧ va_K (dC, dI) vwCl [(cI, .int)] t ∧ va_D (va_A [(h0, .inr (2, [.null, .null, .null]))] sz) [(h0, .inr (2, [.ref q1, .ref q2, .ref q3])), (q1, .inl (cI, 64, .inl (fun _ => 0))), (q2, .inl (cI, 256, .inl (fun _ => 0))), (q3, .inl (cI, 256, .inl (fun _ => 0)))]) (va_A [(h0, .inr (2, [.null, .null, .null]))] sz)) 3 576 (va_A [(h0, .inr (2, [.null, .null, .null]))] sz) := by
  refine Met.ofW (cc := cX2_init) (maxL := 1) (ret := none) (by decide) rfl ?_
  intro p e s m args below meth c s₁ B hml hv
  obtain ⟨rfl, hsz, hP, hK, hD0⟩ := hv
  have hx := B.exec
  have hb := B.bytes
  have hr := B.returns
  have hts := atoms_spec (ws := wsX2_init) B.pre
  have hown : s.vm.findClass RX2 = some m.cls := findClass_of_methodNamed B.named
  have hlocks := B.notSynchronized
  have hin : meth.name = "<init>" := (name_of_methodNamed B.named B.method).1
  subst hsz
  have hD := hD0.self (sz := s.heap.size)
  generalize hAe : va_A [(h0, .inr (2, [.null, .null, .null]))] s.heap.size = A at hD ⊢
  have hA : ∀ q : Nat, s.heap.size ≤ q → A q := fun q h => by rw [← hAe]; exact Or.inr h
  have hS : va_S A s.heap s.heap [] := va_S.rf
  have hP : va_P (dC, dI) vwCl [(h0, .inr (2, [.null, .null, .null]))] s.heap := hP
  have hl := lv_entry ([.ref h0]) (n := 1) (Nat.le_of_ble_eq_true rfl)
  rw [lg_entry_eq]
  generalize (lg_sl ([.ref h0]) ++ List.replicate (1 - (lg_sl ([.ref h0])).length) Slot.unset).toArray = ls at hl ⊢
  have hl : lv_has ls 1 [(0, .ref h0)] := hl
  refine lv_aload_n hx hb dX2_init_0 rfl (lv_at hl 0 rfl) ?_
  refine W.objInit hx hb hown (hts _ (List.mem_of_getElem? (i := 1) rfl)) (hts _ (List.mem_of_getElem? (i := 2) rfl)) (hts _ (List.mem_of_getElem? (i := 3) rfl)) rfl (by rw [hml]; exact hl.1) rfl dX2_init_1 (Nat.le_of_ble_eq_true rfl) (Nat.le_of_ble_eq_true rfl) ?_
  refine W.eq (g2 := F0 m 4 ls []) rfl ?_
  refine lv_aload_n hx hb dX2_init_4 rfl (lv_at hl 0 rfl) ?_
  refine lv_bipush (v := 64) hx hb dX2_init_5 (by decide) ?_
  refine va_newa (atype := .int) (a0 := (64, .inl (fun _ => 0))) (N' := 64) hx hb (hts _ (List.mem_of_getElem? (i := 4) rfl)) rfl hK hP hD hS hA (fun _ => rfl) (by decide) (by decide) (Nat.le_of_ble_eq_true rfl) (Nat.le_of_ble_eq_true rfl) (Nat.le_of_ble_eq_true rfl) dX2_init_7 (fun q7 cA H hK1 hP hD hS => ?_)
  have eA1 : cA = cI := kk_one hK1
  rw [eA1] at hP hD
  have hP : va_P (dC, dI) vwCl [(h0, .inr (2, [.null, .null, .null])), (q7, .inl (cI, 64, .inl (fun _ => 0)))] H := hP
  have hD : va_D A [(h0, .inr (2, [.null, .null, .null])), (q7, .inl (cI, 64, .inl (fun _ => 0)))] := hD
  refine W.widen (k := 1) (n := 64) (Nat.le_of_ble_eq_true rfl) (Nat.le_of_ble_eq_true rfl) ?_
  refine va_putF (D := (dC, dI)) (ci := 2) (v := .ref q7) (ty := .array .int) (C := RX2) (T := TX2) (N := 3) hx hb hts (fun w h => List.mem_cons_of_mem _ (List.mem_append_right _ h)) tyX2 tyX2_ok nmX2 hown hK hP hD hS 0 rfl rfl 0 (by decide) (hts _ (List.mem_of_getElem? (i := 5) rfl)) (fun _ h9 => h9) rfl hin rfl (by decide +kernel) rfl rfl (Nat.le_of_ble_eq_true rfl) dX2_init_9 (fun H locs hP hD hS => ?_)
  have hP : va_P (dC, dI) vwCl [(h0, .inr (2, [.ref q7, .null, .null])), (q7, .inl (cI, 64, .inl (fun _ => 0)))] H := hP
  have hD : va_D A [(h0, .inr (2, [.ref q7, .null, .null])), (q7, .inl (cI, 64, .inl (fun _ => 0)))] := hD
  refine lv_aload_n hx hb dX2_init_12 rfl (lv_at hl 0 rfl) ?_
  refine lv_sipush (v := 256) hx hb dX2_init_13 (by decide) ?_
  refine va_newa (atype := .int) (a0 := (256, .inl (fun _ => 0))) (N' := 256) hx hb (hts _ (List.mem_of_getElem? (i := 4) rfl)) rfl hK hP hD hS hA (fun _ => rfl) (by decide) (by decide) (Nat.le_of_ble_eq_true rfl) (Nat.le_of_ble_eq_true rfl) (Nat.le_of_ble_eq_true rfl) dX2_init_16 (fun q16 cA H hK1 hP hD hS => ?_)
  have eA1 : cA = cI := kk_one hK1
  rw [eA1] at hP hD
  have hP : va_P (dC, dI) vwCl [(h0, .inr (2, [.ref q7, .null, .null])), (q7, .inl (cI, 64, .inl (fun _ => 0))), (q16, .inl (cI, 256, .inl (fun _ => 0)))] H := hP
  have hD : va_D A [(h0, .inr (2, [.ref q7, .null, .null])), (q7, .inl (cI, 64, .inl (fun _ => 0))), (q16, .inl (cI, 256, .inl (fun _ => 0)))] := hD
  refine W.widen (k := 2) (n := 320) (Nat.le_of_ble_eq_true rfl) (Nat.le_of_ble_eq_true rfl) ?_
  refine va_putF (D := (dC, dI)) (ci := 2) (v := .ref q16) (ty := .array .int) (C := RX2) (T := TX2) (N := 3) hx hb hts (fun w h => List.mem_cons_of_mem _ (List.mem_append_right _ h)) tyX2 tyX2_ok nmX2 hown hK hP hD hS 0 rfl rfl 1 (by decide) (hts _ (List.mem_of_getElem? (i := 6) rfl)) (fun _ h9 => h9) rfl hin rfl (by decide +kernel) rfl rfl (Nat.le_of_ble_eq_true rfl) dX2_init_18 (fun H locs hP hD hS => ?_)
  have hP : va_P (dC, dI) vwCl [(h0, .inr (2, [.ref q7, .ref q16, .null])), (q7, .inl (cI, 64, .inl (fun _ => 0))), (q16, .inl (cI, 256, .inl (fun _ => 0)))] H := hP
  have hD : va_D A [(h0, .inr (2, [.ref q7, .ref q16, .null])), (q7, .inl (cI, 64, .inl (fun _ => 0))), (q16, .inl (cI, 256, .inl (fun _ => 0)))] := hD
  refine lv_aload_n hx hb dX2_init_21 rfl (lv_at hl 0 rfl) ?_
  refine lv_sipush (v := 256) hx hb dX2_init_22 (by decide) ?_
  refine va_newa (atype := .int) (a0 := (256, .inl (fun _ => 0))) (N' := 256) hx hb (hts _ (List.mem_of_getElem? (i := 4) rfl)) rfl hK hP hD hS hA (fun _ => rfl) (by decide) (by decide) (Nat.le_of_ble_eq_true rfl) (Nat.le_of_ble_eq_true rfl) (Nat.le_of_ble_eq_true rfl) dX2_init_25 (fun q25 cA H hK1 hP hD hS => ?_)
  have eA1 : cA = cI := kk_one hK1
  rw [eA1] at hP hD
  have hP : va_P (dC, dI) vwCl [(h0, .inr (2, [.ref q7, .ref q16, .null])), (q7, .inl (cI, 64, .inl (fun _ => 0))), (q16, .inl (cI, 256, .inl (fun _ => 0))), (q25, .inl (cI, 256, .inl (fun _ => 0)))] H := hP
  have hD : va_D A [(h0, .inr (2, [.ref q7, .ref q16, .null])), (q7, .inl (cI, 64, .inl (fun _ => 0))), (q16, .inl (cI, 256, .inl (fun _ => 0))), (q25, .inl (cI, 256, .inl (fun _ => 0)))] := hD
  refine W.widen (k := 3) (n := 576) (Nat.le_of_ble_eq_true rfl) (Nat.le_of_ble_eq_true rfl) ?_
  refine va_putF (D := (dC, dI)) (ci := 2) (v := .ref q25) (ty := .array .int) (C := RX2) (T := TX2) (N := 3) hx hb hts (fun w h => List.mem_cons_of_mem _ (List.mem_append_right _ h)) tyX2 tyX2_ok nmX2 hown hK hP hD hS 0 rfl rfl 2 (by decide) (hts _ (List.mem_of_getElem? (i := 7) rfl)) (fun _ h9 => h9) rfl hin rfl (by decide +kernel) rfl rfl (Nat.le_of_ble_eq_true rfl) dX2_init_27 (fun H locs hP hD hS => ?_)
  have hP : va_P (dC, dI) vwCl [(h0, .inr (2, [.ref q7, .ref q16, .ref q25])), (q7, .inl (cI, 64, .inl (fun _ => 0))), (q16, .inl (cI, 256, .inl (fun _ => 0))), (q25, .inl (cI, 256, .inl (fun _ => 0)))] H := hP
  have hD : va_D A [(h0, .inr (2, [.ref q7, .ref q16, .ref q25])), (q7, .inl (cI, 64, .inl (fun _ => 0))), (q16, .inl (cI, 256, .inl (fun _ => 0))), (q25, .inl (cI, 256, .inl (fun _ => 0)))] := hD
  have hP9 := hP.sub (ws' := [(h0, .inr (2, [.ref q7, .ref q16, .ref q25])), (q7, .inl (cI, 64, .inl (fun _ => 0))), (q16, .inl (cI, 256, .inl (fun _ => 0))), (q25, .inl (cI, 256, .inl (fun _ => 0)))]) [0, 1, 2, 3] rfl
  have hD9 := hD.sub (ws' := [(h0, .inr (2, [.ref q7, .ref q16, .ref q25])), (q7, .inl (cI, 64, .inl (fun _ => 0))), (q16, .inl (cI, 256, .inl (fun _ => 0))), (q25, .inl (cI, 256, .inl (fun _ => 0)))]) [0, 1, 2, 3] (by decide) rfl
  refine W.widen (k := 3) (n := 576) (Nat.le_of_ble_eq_true rfl) (Nat.le_of_ble_eq_true rfl) ?_
  exact W.vret hx hb hr (fun t ht hW => ⟨⟨(), rfl, trivial, q7, q16, q25, by rw [ht]; exact hP9, va_K.moved hW.alike hK, hD9⟩, hS.F ht⟩) hS.2.2 dX2_init_30
set_option maxHeartbeats 4000000 in
set_option maxRecDepth 100000 in
theorem land_loop {p : Program} {l : Launch} {e : Env} {rm : Room} {s : State} {m : MethodId} {args : Array Value} {below : List Frame} {meth : Method} {c : Code} {mc ms : Nat} {Q : State → Prop} {dC : Nat → ClassId} {dI : Nat → Nat → Nat} {cI : ClassId} {A : Nat → Prop} {h0 q7 q15 q23 q31 q39 q47 : Nat} (hx : p.tables.exec = Jvm.exec) (hb : c.code = cX1_init) (hts : ∀ w ∈ wsX1_init, w.before args s = true) (hown : s.vm.findClass RX1 = some m.cls) (hK : va_K (dC, dI) vwCl [(cI, .int)] s)
    (kk : ∀ (f : Nat → Int32) (H : Heap) (locs : List Loc) (ls : Array Slot), (∀ j, j < 10 → f j = -1) → va_P (dC, dI) vwCl [(h0, .inr (1, [.ref q7, .ref q15, .ref q23, .ref q31, .ref q39, .ref q47, .int 0, .int 65535, .int 0, .int 0, .int 0, .int 1])), (q7, .inl (cI, 8, .inl (fun _ => 0))), (q15, .inl (cI, 8, .inl (fun _ => 0))), (q23, .inl (cI, 8, .inl (fun _ => 0))), (q31, .inl (cI, 8, .inl (fun _ => 0))), (q39, .inl (cI, 8, .inl (fun _ => 0))), (q47, .inl (cI, 10, .inl (f)))] H → va_D A [(h0, .inr (1, [.ref q7, .ref q15, .ref q23, .ref q31, .ref q39, .ref q47, .int 0, .int 65535, .int 0, .int 0, .int 0, .int 1])), (q7, .inl (cI, 8, .inl (fun _ => 0))), (q15, .inl (cI, 8, .inl (fun _ => 0))), (q23, .inl (cI, 8, .inl (fun _ => 0))), (q31, .inl (cI, 8, .inl (fun _ => 0))), (q39, .inl (cI, 8, .inl (fun _ => 0))), (q47, .inl (cI, 10, .inl (f)))] → va_S A s.heap H locs → W p l e rm s m args below meth c H locs mc ms Q (F0 m 104 ls [])) : ∀ (n i : Nat) (x1 : Int32) (f : Nat → Int32) (H : Heap) (locs : List Loc) (ls : Array Slot), i + n = 10 → x1 = nI i → (∀ j, j < i → f j = -1) → va_P (dC, dI) vwCl [(h0, .inr (1, [.ref q7, .ref q15, .ref q23, .ref q31, .ref q39, .ref q47, .int 0, .int 65535, .int 0, .int 0, .int 0, .int 1])), (q7, .inl (cI, 8, .inl (fun _ => 0))), (q15, .inl (cI, 8, .inl (fun _ => 0))), (q23, .inl (cI, 8, .inl (fun _ => 0))), (q31, .inl (cI, 8, .inl (fun _ => 0))), (q39, .inl (cI, 8, .inl (fun _ => 0))), (q47, .inl (cI, 10, .inl (f)))] H → va_D A [(h0, .inr (1, [.ref q7, .ref q15, .ref q23, .ref q31, .ref q39, .ref q47, .int 0, .int 65535, .int 0, .int 0, .int 0, .int 1])), (q7, .inl (cI, 8, .inl (fun _ => 0))), (q15, .inl (cI, 8, .inl (fun _ => 0))), (q23, .inl (cI, 8, .inl (fun _ => 0))), (q31, .inl (cI, 8, .inl (fun _ => 0))), (q39, .inl (cI, 8, .inl (fun _ => 0))), (q47, .inl (cI, 10, .inl (f)))] → va_S A s.heap H locs → lv_has ls 2 [(1, .int x1), (0, .ref h0)] → W p l e rm s m args below meth c H locs mc ms Q (F0 m 85 ls []) := by
  intro n
  induction n with
  | zero =>
    intro i x1 f H locs ls hi ex hf hP hD hS hl
    refine lv_iload_n hx hb dX1_init_85 rfl (lv_at hl 0 rfl) ?_
    refine lv_bipush (v := 10) hx hb dX1_init_86 (by decide) ?_
    refine lv_icmp_ge (tgt := 104) hx hb dX1_init_88 (by decide) (fun c_1 => ?_) (fun c_1 => ?_)
    · exact kk f H locs ls (fun j hj => hf j (by omega)) hP hD hS
    · exact absurd (by rw [ex, show i = 10 by omega]; decide) c_1
  | succ n ih =>
    intro i x1 f H locs ls hi ex hf hP hD hS hl
    refine lv_iload_n hx hb dX1_init_85 rfl (lv_at hl 0 rfl) ?_
    refine lv_bipush (v := 10) hx hb dX1_init_86 (by decide) ?_
    refine lv_icmp_ge (tgt := 104) hx hb dX1_init_88 (by decide) (fun c_1 => ?_) (fun c_1 => ?_)
    · rw [ex, show (10 : Int32) = nI 10 from rfl] at c_1
      have := (nI_leI (by omega) (by omega)).mp c_1
      omega
    · refine lv_aload_n hx hb dX1_init_91 rfl (lv_at hl 1 rfl) ?_
      refine va_get (D := (dC, dI)) (ci := 1) (v := .ref q47) (C := RX1) (T := TX1) (N := 12) hx hb hts (fun w h => List.mem_cons_of_mem _ (List.mem_append_right _ h)) hown hK hP 0 rfl rfl 5 (by decide) (hts _ (List.mem_of_getElem? (i := 10) rfl)) (fun _ h9 => h9) rfl dX1_init_92 ?_
      refine lv_iload_n hx hb dX1_init_95 rfl (lv_at hl 0 rfl) ?_
      refine lv_iconst (v := -1) hx hb dX1_init_96 (by decide) ?_
      refine va_iast hx hb hK hP hD hS 6 0 rfl rfl (by rw [ex]; exact vp_in_nI (by omega) (by omega)) dX1_init_97 (fun H locs hP hD hS => ?_)
      rw [ex] at hP hD
      rw [show (nI i).toNatClampNeg = i from nI_clamp (by omega)] at hP hD
      obtain ⟨x1_2, e2⟩ : ∃ y : Int32, y = x1 + 1 := ⟨_, rfl⟩
      refine lv_iinc (v := x1_2) (lv' := [(1, .int x1_2), (0, .ref h0)]) hx hb dX1_init_98 hl (k := 0) rfl (by rw [e2]; rfl) (by decide) rfl (fun ls hl => ?_)
      refine lv_goto (tgt := 85) hx hb dX1_init_101 (by decide) ?_
      exact ih (i + 1) x1_2 (upd f i (-1)) H locs ls (by omega) (by rw [e2, ex]; exact nI_1 i) (fun j hj => by
        unfold upd
        by_cases c : j = i
        · rw [if_pos c]
        · rw [if_neg c]; exact hf j (by omega)) hP hD hS hl
set_option maxHeartbeats 8000000 in
set_option maxRecDepth 100000 in
theorem cin_X1 (l : Launch) (dC : Nat → ClassId) (dI : Nat → Nat → Nat) (cI : ClassId) (h0 : Nat) (sz : Nat) : Met l yX1_init wsX1_init ({ frames := 1, cells := 6, slots := 50, locals := 12 }) (va_Pc [.ref h0] (fun U => U.heap.size = sz ∧ va_P (dC, dI) vwCl [(h0, .inr (1, [.null, .null, .null, .null, .null, .null, .int 0, .int 0, .int 0, .int 0, .int 0, .int 0]))] U.heap ∧ va_K (dC, dI) vwCl [(cI, .int)] U ∧ va_D (fun _ => True) [(h0, .inr (1, [.null, .null, .null, .null, .null, .null, .int 0, .int 0, .int 0, .int 0, .int 0, .int 0]))])) (va_Qv (fun (f1 : Nat → Int32) => ∀ j, j < 10 → f1 j = -1) (fun (f1 : Nat → Int32) (t : State) => ∃ (q1 q2 q3 q4 q5 q6 : Nat), va_P (dC, dI) vwCl [(h0, .inr (1, [.ref q1, .ref q2, .ref q3, .ref q4, .ref q5, .ref q6, .int 0, .int 65535, .int 0, .int 0, .int 0, .int 1])), (q1, .inl (cI, 8, .inl (fun _ => 0))), (q2, .inl (cI, 8, .inl (fun _ => 0))), (q3, .inl (cI, 8, .inl (fun _ => 0))), (q4, .inl (cI, 8, .inl (fun _ => 0))), (q5, .inl (cI, 8, .inl (fun _ => 0))), (q6, .inl (cI, 10, .inl (f1)))] t.heap ∧ va_K (dC, dI) vwCl [(cI, .int)] t ∧ va_D (va_A [(h0, .inr (1, [.null, .null, .null, .null, .null, .null, .int 0, .int 0, .int 0, .int 0, .int 0, .int 0]))] sz) [(h0, .inr (1, [.ref q1, .ref q2, .ref q3, .ref q4, .ref q5, .ref q6, .int 0, .int 65535, .int 0, .int 0, .int 0, .int 1])), (q1, .inl (cI, 8, .inl (fun _ => 0))), (q2, .inl (cI, 8, .inl (fun _ => 0))), (q3, .inl (cI, 8, .inl (fun _ => 0))), (q4, .inl (cI, 8, .inl (fun _ => 0))), (q5, .inl (cI, 8, .inl (fun _ => 0))), (q6, .inl (cI, 10, .inl (f1)))]) (va_A [(h0, .inr (1, [.null, .null, .null, .null, .null, .null, .int 0, .int 0, .int 0, .int 0, .int 0, .int 0]))] sz)) 6 50 (va_A [(h0, .inr (1, [.null, .null, .null, .null, .null, .null, .int 0, .int 0, .int 0, .int 0, .int 0, .int 0]))] sz) := by
  refine Met.ofW (cc := cX1_init) (maxL := 2) (ret := none) (by decide) rfl ?_
  intro p e s m args below meth c s₁ B hml hv
  obtain ⟨rfl, hsz, hP, hK, hD0⟩ := hv
  have hx := B.exec
  have hb := B.bytes
  have hr := B.returns
  have hts := atoms_spec (ws := wsX1_init) B.pre
  have hown : s.vm.findClass RX1 = some m.cls := findClass_of_methodNamed B.named
  have hlocks := B.notSynchronized
  have hin : meth.name = "<init>" := (name_of_methodNamed B.named B.method).1
  subst hsz
  have hD := hD0.self (sz := s.heap.size)
  generalize hAe : va_A [(h0, .inr (1, [.null, .null, .null, .null, .null, .null, .int 0, .int 0, .int 0, .int 0, .int 0, .int 0]))] s.heap.size = A at hD ⊢
  have hA : ∀ q : Nat, s.heap.size ≤ q → A q := fun q h => by rw [← hAe]; exact Or.inr h
  have hS : va_S A s.heap s.heap [] := va_S.rf
  have hP : va_P (dC, dI) vwCl [(h0, .inr (1, [.null, .null, .null, .null, .null, .null, .int 0, .int 0, .int 0, .int 0, .int 0, .int 0]))] s.heap := hP
  have hl := lv_entry ([.ref h0]) (n := 2) (Nat.le_of_ble_eq_true rfl)
  rw [lg_entry_eq]
  generalize (lg_sl ([.ref h0]) ++ List.replicate (2 - (lg_sl ([.ref h0])).length) Slot.unset).toArray = ls at hl ⊢
  have hl : lv_has ls 2 [(0, .ref h0)] := hl
  refine lv_aload_n hx hb dX1_init_0 rfl (lv_at hl 0 rfl) ?_
  refine W.objInit hx hb hown (hts _ (List.mem_of_getElem? (i := 1) rfl)) (hts _ (List.mem_of_getElem? (i := 2) rfl)) (hts _ (List.mem_of_getElem? (i := 3) rfl)) rfl (by rw [hml]; exact hl.1) rfl dX1_init_1 (Nat.le_of_ble_eq_true rfl) (Nat.le_of_ble_eq_true rfl) ?_
  refine W.eq (g2 := F0 m 4 ls []) rfl ?_
  refine lv_aload_n hx hb dX1_init_4 rfl (lv_at hl 0 rfl) ?_
  refine lv_bipush (v := 8) hx hb dX1_init_5 (by decide) ?_
  refine va_newa (atype := .int) (a0 := (8, .inl (fun _ => 0))) (N' := 8) hx hb (hts _ (List.mem_of_getElem? (i := 4) rfl)) rfl hK hP hD hS hA (fun _ => rfl) (by decide) (by decide) (Nat.le_of_ble_eq_true rfl) (Nat.le_of_ble_eq_true rfl) (Nat.le_of_ble_eq_true rfl) dX1_init_7 (fun q7 cA H hK1 hP hD hS => ?_)
  have eA1 : cA = cI := kk_one hK1
  rw [eA1] at hP hD
  have hP : va_P (dC, dI) vwCl [(h0, .inr (1, [.null, .null, .null, .null, .null, .null, .int 0, .int 0, .int 0, .int 0, .int 0, .int 0])), (q7, .inl (cI, 8, .inl (fun _ => 0)))] H := hP
  have hD : va_D A [(h0, .inr (1, [.null, .null, .null, .null, .null, .null, .int 0, .int 0, .int 0, .int 0, .int 0, .int 0])), (q7, .inl (cI, 8, .inl (fun _ => 0)))] := hD
  refine W.widen (k := 1) (n := 8) (Nat.le_of_ble_eq_true rfl) (Nat.le_of_ble_eq_true rfl) ?_
  refine va_putF (D := (dC, dI)) (ci := 1) (v := .ref q7) (ty := .array .int) (C := RX1) (T := TX1) (N := 12) hx hb hts (fun w h => List.mem_cons_of_mem _ (List.mem_append_right _ h)) tyX1 tyX1_ok nmX1 hown hK hP hD hS 0 rfl rfl 0 (by decide) (hts _ (List.mem_of_getElem? (i := 5) rfl)) (fun _ h9 => h9) rfl hin rfl (by decide +kernel) rfl rfl (Nat.le_of_ble_eq_true rfl) dX1_init_9 (fun H locs hP hD hS => ?_)
  have hP : va_P (dC, dI) vwCl [(h0, .inr (1, [.ref q7, .null, .null, .null, .null, .null, .int 0, .int 0, .int 0, .int 0, .int 0, .int 0])), (q7, .inl (cI, 8, .inl (fun _ => 0)))] H := hP
  have hD : va_D A [(h0, .inr (1, [.ref q7, .null, .null, .null, .null, .null, .int 0, .int 0, .int 0, .int 0, .int 0, .int 0])), (q7, .inl (cI, 8, .inl (fun _ => 0)))] := hD
  refine lv_aload_n hx hb dX1_init_12 rfl (lv_at hl 0 rfl) ?_
  refine lv_bipush (v := 8) hx hb dX1_init_13 (by decide) ?_
  refine va_newa (atype := .int) (a0 := (8, .inl (fun _ => 0))) (N' := 8) hx hb (hts _ (List.mem_of_getElem? (i := 4) rfl)) rfl hK hP hD hS hA (fun _ => rfl) (by decide) (by decide) (Nat.le_of_ble_eq_true rfl) (Nat.le_of_ble_eq_true rfl) (Nat.le_of_ble_eq_true rfl) dX1_init_15 (fun q15 cA H hK1 hP hD hS => ?_)
  have eA1 : cA = cI := kk_one hK1
  rw [eA1] at hP hD
  have hP : va_P (dC, dI) vwCl [(h0, .inr (1, [.ref q7, .null, .null, .null, .null, .null, .int 0, .int 0, .int 0, .int 0, .int 0, .int 0])), (q7, .inl (cI, 8, .inl (fun _ => 0))), (q15, .inl (cI, 8, .inl (fun _ => 0)))] H := hP
  have hD : va_D A [(h0, .inr (1, [.ref q7, .null, .null, .null, .null, .null, .int 0, .int 0, .int 0, .int 0, .int 0, .int 0])), (q7, .inl (cI, 8, .inl (fun _ => 0))), (q15, .inl (cI, 8, .inl (fun _ => 0)))] := hD
  refine W.widen (k := 2) (n := 16) (Nat.le_of_ble_eq_true rfl) (Nat.le_of_ble_eq_true rfl) ?_
  refine va_putF (D := (dC, dI)) (ci := 1) (v := .ref q15) (ty := .array .int) (C := RX1) (T := TX1) (N := 12) hx hb hts (fun w h => List.mem_cons_of_mem _ (List.mem_append_right _ h)) tyX1 tyX1_ok nmX1 hown hK hP hD hS 0 rfl rfl 1 (by decide) (hts _ (List.mem_of_getElem? (i := 6) rfl)) (fun _ h9 => h9) rfl hin rfl (by decide +kernel) rfl rfl (Nat.le_of_ble_eq_true rfl) dX1_init_17 (fun H locs hP hD hS => ?_)
  have hP : va_P (dC, dI) vwCl [(h0, .inr (1, [.ref q7, .ref q15, .null, .null, .null, .null, .int 0, .int 0, .int 0, .int 0, .int 0, .int 0])), (q7, .inl (cI, 8, .inl (fun _ => 0))), (q15, .inl (cI, 8, .inl (fun _ => 0)))] H := hP
  have hD : va_D A [(h0, .inr (1, [.ref q7, .ref q15, .null, .null, .null, .null, .int 0, .int 0, .int 0, .int 0, .int 0, .int 0])), (q7, .inl (cI, 8, .inl (fun _ => 0))), (q15, .inl (cI, 8, .inl (fun _ => 0)))] := hD
  refine lv_aload_n hx hb dX1_init_20 rfl (lv_at hl 0 rfl) ?_
  refine lv_bipush (v := 8) hx hb dX1_init_21 (by decide) ?_
  refine va_newa (atype := .int) (a0 := (8, .inl (fun _ => 0))) (N' := 8) hx hb (hts _ (List.mem_of_getElem? (i := 4) rfl)) rfl hK hP hD hS hA (fun _ => rfl) (by decide) (by decide) (Nat.le_of_ble_eq_true rfl) (Nat.le_of_ble_eq_true rfl) (Nat.le_of_ble_eq_true rfl) dX1_init_23 (fun q23 cA H hK1 hP hD hS => ?_)
  have eA1 : cA = cI := kk_one hK1
  rw [eA1] at hP hD
  have hP : va_P (dC, dI) vwCl [(h0, .inr (1, [.ref q7, .ref q15, .null, .null, .null, .null, .int 0, .int 0, .int 0, .int 0, .int 0, .int 0])), (q7, .inl (cI, 8, .inl (fun _ => 0))), (q15, .inl (cI, 8, .inl (fun _ => 0))), (q23, .inl (cI, 8, .inl (fun _ => 0)))] H := hP
  have hD : va_D A [(h0, .inr (1, [.ref q7, .ref q15, .null, .null, .null, .null, .int 0, .int 0, .int 0, .int 0, .int 0, .int 0])), (q7, .inl (cI, 8, .inl (fun _ => 0))), (q15, .inl (cI, 8, .inl (fun _ => 0))), (q23, .inl (cI, 8, .inl (fun _ => 0)))] := hD
  refine W.widen (k := 3) (n := 24) (Nat.le_of_ble_eq_true rfl) (Nat.le_of_ble_eq_true rfl) ?_
  refine va_putF (D := (dC, dI)) (ci := 1) (v := .ref q23) (ty := .array .int) (C := RX1) (T := TX1) (N := 12) hx hb hts (fun w h => List.mem_cons_of_mem _ (List.mem_append_right _ h)) tyX1 tyX1_ok nmX1 hown hK hP hD hS 0 rfl rfl 2 (by decide) (hts _ (List.mem_of_getElem? (i := 7) rfl)) (fun _ h9 => h9) rfl hin rfl (by decide +kernel) rfl rfl (Nat.le_of_ble_eq_true rfl) dX1_init_25 (fun H locs hP hD hS => ?_)
  have hP : va_P (dC, dI) vwCl [(h0, .inr (1, [.ref q7, .ref q15, .ref q23, .null, .null, .null, .int 0, .int 0, .int 0, .int 0, .int 0, .int 0])), (q7, .inl (cI, 8, .inl (fun _ => 0))), (q15, .inl (cI, 8, .inl (fun _ => 0))), (q23, .inl (cI, 8, .inl (fun _ => 0)))] H := hP
  have hD : va_D A [(h0, .inr (1, [.ref q7, .ref q15, .ref q23, .null, .null, .null, .int 0, .int 0, .int 0, .int 0, .int 0, .int 0])), (q7, .inl (cI, 8, .inl (fun _ => 0))), (q15, .inl (cI, 8, .inl (fun _ => 0))), (q23, .inl (cI, 8, .inl (fun _ => 0)))] := hD
  refine lv_aload_n hx hb dX1_init_28 rfl (lv_at hl 0 rfl) ?_
  refine lv_bipush (v := 8) hx hb dX1_init_29 (by decide) ?_
  refine va_newa (atype := .int) (a0 := (8, .inl (fun _ => 0))) (N' := 8) hx hb (hts _ (List.mem_of_getElem? (i := 4) rfl)) rfl hK hP hD hS hA (fun _ => rfl) (by decide) (by decide) (Nat.le_of_ble_eq_true rfl) (Nat.le_of_ble_eq_true rfl) (Nat.le_of_ble_eq_true rfl) dX1_init_31 (fun q31 cA H hK1 hP hD hS => ?_)
  have eA1 : cA = cI := kk_one hK1
  rw [eA1] at hP hD
  have hP : va_P (dC, dI) vwCl [(h0, .inr (1, [.ref q7, .ref q15, .ref q23, .null, .null, .null, .int 0, .int 0, .int 0, .int 0, .int 0, .int 0])), (q7, .inl (cI, 8, .inl (fun _ => 0))), (q15, .inl (cI, 8, .inl (fun _ => 0))), (q23, .inl (cI, 8, .inl (fun _ => 0))), (q31, .inl (cI, 8, .inl (fun _ => 0)))] H := hP
  have hD : va_D A [(h0, .inr (1, [.ref q7, .ref q15, .ref q23, .null, .null, .null, .int 0, .int 0, .int 0, .int 0, .int 0, .int 0])), (q7, .inl (cI, 8, .inl (fun _ => 0))), (q15, .inl (cI, 8, .inl (fun _ => 0))), (q23, .inl (cI, 8, .inl (fun _ => 0))), (q31, .inl (cI, 8, .inl (fun _ => 0)))] := hD
  refine W.widen (k := 4) (n := 32) (Nat.le_of_ble_eq_true rfl) (Nat.le_of_ble_eq_true rfl) ?_
  refine va_putF (D := (dC, dI)) (ci := 1) (v := .ref q31) (ty := .array .int) (C := RX1) (T := TX1) (N := 12) hx hb hts (fun w h => List.mem_cons_of_mem _ (List.mem_append_right _ h)) tyX1 tyX1_ok nmX1 hown hK hP hD hS 0 rfl rfl 3 (by decide) (hts _ (List.mem_of_getElem? (i := 8) rfl)) (fun _ h9 => h9) rfl hin rfl (by decide +kernel) rfl rfl (Nat.le_of_ble_eq_true rfl) dX1_init_33 (fun H locs hP hD hS => ?_)
  have hP : va_P (dC, dI) vwCl [(h0, .inr (1, [.ref q7, .ref q15, .ref q23, .ref q31, .null, .null, .int 0, .int 0, .int 0, .int 0, .int 0, .int 0])), (q7, .inl (cI, 8, .inl (fun _ => 0))), (q15, .inl (cI, 8, .inl (fun _ => 0))), (q23, .inl (cI, 8, .inl (fun _ => 0))), (q31, .inl (cI, 8, .inl (fun _ => 0)))] H := hP
  have hD : va_D A [(h0, .inr (1, [.ref q7, .ref q15, .ref q23, .ref q31, .null, .null, .int 0, .int 0, .int 0, .int 0, .int 0, .int 0])), (q7, .inl (cI, 8, .inl (fun _ => 0))), (q15, .inl (cI, 8, .inl (fun _ => 0))), (q23, .inl (cI, 8, .inl (fun _ => 0))), (q31, .inl (cI, 8, .inl (fun _ => 0)))] := hD
  refine lv_aload_n hx hb dX1_init_36 rfl (lv_at hl 0 rfl) ?_
  refine lv_bipush (v := 8) hx hb dX1_init_37 (by decide) ?_
  refine va_newa (atype := .int) (a0 := (8, .inl (fun _ => 0))) (N' := 8) hx hb (hts _ (List.mem_of_getElem? (i := 4) rfl)) rfl hK hP hD hS hA (fun _ => rfl) (by decide) (by decide) (Nat.le_of_ble_eq_true rfl) (Nat.le_of_ble_eq_true rfl) (Nat.le_of_ble_eq_true rfl) dX1_init_39 (fun q39 cA H hK1 hP hD hS => ?_)
  have eA1 : cA = cI := kk_one hK1
  rw [eA1] at hP hD
  have hP : va_P (dC, dI) vwCl [(h0, .inr (1, [.ref q7, .ref q15, .ref q23, .ref q31, .null, .null, .int 0, .int 0, .int 0, .int 0, .int 0, .int 0])), (q7, .inl (cI, 8, .inl (fun _ => 0))), (q15, .inl (cI, 8, .inl (fun _ => 0))), (q23, .inl (cI, 8, .inl (fun _ => 0))), (q31, .inl (cI, 8, .inl (fun _ => 0))), (q39, .inl (cI, 8, .inl (fun _ => 0)))] H := hP
  have hD : va_D A [(h0, .inr (1, [.ref q7, .ref q15, .ref q23, .ref q31, .null, .null, .int 0, .int 0, .int 0, .int 0, .int 0, .int 0])), (q7, .inl (cI, 8, .inl (fun _ => 0))), (q15, .inl (cI, 8, .inl (fun _ => 0))), (q23, .inl (cI, 8, .inl (fun _ => 0))), (q31, .inl (cI, 8, .inl (fun _ => 0))), (q39, .inl (cI, 8, .inl (fun _ => 0)))] := hD
  refine W.widen (k := 5) (n := 40) (Nat.le_of_ble_eq_true rfl) (Nat.le_of_ble_eq_true rfl) ?_
  refine va_putF (D := (dC, dI)) (ci := 1) (v := .ref q39) (ty := .array .int) (C := RX1) (T := TX1) (N := 12) hx hb hts (fun w h => List.mem_cons_of_mem _ (List.mem_append_right _ h)) tyX1 tyX1_ok nmX1 hown hK hP hD hS 0 rfl rfl 4 (by decide) (hts _ (List.mem_of_getElem? (i := 9) rfl)) (fun _ h9 => h9) rfl hin rfl (by decide +kernel) rfl rfl (Nat.le_of_ble_eq_true rfl) dX1_init_41 (fun H locs hP hD hS => ?_)
  have hP : va_P (dC, dI) vwCl [(h0, .inr (1, [.ref q7, .ref q15, .ref q23, .ref q31, .ref q39, .null, .int 0, .int 0, .int 0, .int 0, .int 0, .int 0])), (q7, .inl (cI, 8, .inl (fun _ => 0))), (q15, .inl (cI, 8, .inl (fun _ => 0))), (q23, .inl (cI, 8, .inl (fun _ => 0))), (q31, .inl (cI, 8, .inl (fun _ => 0))), (q39, .inl (cI, 8, .inl (fun _ => 0)))] H := hP
  have hD : va_D A [(h0, .inr (1, [.ref q7, .ref q15, .ref q23, .ref q31, .ref q39, .null, .int 0, .int 0, .int 0, .int 0, .int 0, .int 0])), (q7, .inl (cI, 8, .inl (fun _ => 0))), (q15, .inl (cI, 8, .inl (fun _ => 0))), (q23, .inl (cI, 8, .inl (fun _ => 0))), (q31, .inl (cI, 8, .inl (fun _ => 0))), (q39, .inl (cI, 8, .inl (fun _ => 0)))] := hD
  refine lv_aload_n hx hb dX1_init_44 rfl (lv_at hl 0 rfl) ?_
  refine lv_bipush (v := 10) hx hb dX1_init_45 (by decide) ?_
  refine va_newa (atype := .int) (a0 := (10, .inl (fun _ => 0))) (N' := 10) hx hb (hts _ (List.mem_of_getElem? (i := 4) rfl)) rfl hK hP hD hS hA (fun _ => rfl) (by decide) (by decide) (Nat.le_of_ble_eq_true rfl) (Nat.le_of_ble_eq_true rfl) (Nat.le_of_ble_eq_true rfl) dX1_init_47 (fun q47 cA H hK1 hP hD hS => ?_)
  have eA1 : cA = cI := kk_one hK1
  rw [eA1] at hP hD
  have hP : va_P (dC, dI) vwCl [(h0, .inr (1, [.ref q7, .ref q15, .ref q23, .ref q31, .ref q39, .null, .int 0, .int 0, .int 0, .int 0, .int 0, .int 0])), (q7, .inl (cI, 8, .inl (fun _ => 0))), (q15, .inl (cI, 8, .inl (fun _ => 0))), (q23, .inl (cI, 8, .inl (fun _ => 0))), (q31, .inl (cI, 8, .inl (fun _ => 0))), (q39, .inl (cI, 8, .inl (fun _ => 0))), (q47, .inl (cI, 10, .inl (fun _ => 0)))] H := hP
  have hD : va_D A [(h0, .inr (1, [.ref q7, .ref q15, .ref q23, .ref q31, .ref q39, .null, .int 0, .int 0, .int 0, .int 0, .int 0, .int 0])), (q7, .inl (cI, 8, .inl (fun _ => 0))), (q15, .inl (cI, 8, .inl (fun _ => 0))), (q23, .inl (cI, 8, .inl (fun _ => 0))), (q31, .inl (cI, 8, .inl (fun _ => 0))), (q39, .inl (cI, 8, .inl (fun _ => 0))), (q47, .inl (cI, 10, .inl (fun _ => 0)))] := hD
  refine W.widen (k := 6) (n := 50) (Nat.le_of_ble_eq_true rfl) (Nat.le_of_ble_eq_true rfl) ?_
  refine va_putF (D := (dC, dI)) (ci := 1) (v := .ref q47) (ty := .array .int) (C := RX1) (T := TX1) (N := 12) hx hb hts (fun w h => List.mem_cons_of_mem _ (List.mem_append_right _ h)) tyX1 tyX1_ok nmX1 hown hK hP hD hS 0 rfl rfl 5 (by decide) (hts _ (List.mem_of_getElem? (i := 10) rfl)) (fun _ h9 => h9) rfl hin rfl (by decide +kernel) rfl rfl (Nat.le_of_ble_eq_true rfl) dX1_init_49 (fun H locs hP hD hS => ?_)
  have hP : va_P (dC, dI) vwCl [(h0, .inr (1, [.ref q7, .ref q15, .ref q23, .ref q31, .ref q39, .ref q47, .int 0, .int 0, .int 0, .int 0, .int 0, .int 0])), (q7, .inl (cI, 8, .inl (fun _ => 0))), (q15, .inl (cI, 8, .inl (fun _ => 0))), (q23, .inl (cI, 8, .inl (fun _ => 0))), (q31, .inl (cI, 8, .inl (fun _ => 0))), (q39, .inl (cI, 8, .inl (fun _ => 0))), (q47, .inl (cI, 10, .inl (fun _ => 0)))] H := hP
  have hD : va_D A [(h0, .inr (1, [.ref q7, .ref q15, .ref q23, .ref q31, .ref q39, .ref q47, .int 0, .int 0, .int 0, .int 0, .int 0, .int 0])), (q7, .inl (cI, 8, .inl (fun _ => 0))), (q15, .inl (cI, 8, .inl (fun _ => 0))), (q23, .inl (cI, 8, .inl (fun _ => 0))), (q31, .inl (cI, 8, .inl (fun _ => 0))), (q39, .inl (cI, 8, .inl (fun _ => 0))), (q47, .inl (cI, 10, .inl (fun _ => 0)))] := hD
  refine lv_aload_n hx hb dX1_init_52 rfl (lv_at hl 0 rfl) ?_
  refine lv_iconst (v := 0) hx hb dX1_init_53 (by decide) ?_
  refine va_put (D := (dC, dI)) (ci := 1) (v := .int 0) (ty := .int) (C := RX1) (T := TX1) (N := 12) hx hb hts (fun w h => List.mem_cons_of_mem _ (List.mem_append_right _ h)) tyX1 tyX1_ok nmX1 hown hK hP hD hS 0 rfl rfl 6 (by decide) (hts _ (List.mem_of_getElem? (i := 11) rfl)) (fun _ h9 => h9) rfl (by decide +kernel) rfl rfl (Nat.le_of_ble_eq_true rfl) dX1_init_54 (fun H locs hP hD hS => ?_)
  have hP : va_P (dC, dI) vwCl [(h0, .inr (1, [.ref q7, .ref q15, .ref q23, .ref q31, .ref q39, .ref q47, .int 0, .int 0, .int 0, .int 0, .int 0, .int 0])), (q7, .inl (cI, 8, .inl (fun _ => 0))), (q15, .inl (cI, 8, .inl (fun _ => 0))), (q23, .inl (cI, 8, .inl (fun _ => 0))), (q31, .inl (cI, 8, .inl (fun _ => 0))), (q39, .inl (cI, 8, .inl (fun _ => 0))), (q47, .inl (cI, 10, .inl (fun _ => 0)))] H := hP
  have hD : va_D A [(h0, .inr (1, [.ref q7, .ref q15, .ref q23, .ref q31, .ref q39, .ref q47, .int 0, .int 0, .int 0, .int 0, .int 0, .int 0])), (q7, .inl (cI, 8, .inl (fun _ => 0))), (q15, .inl (cI, 8, .inl (fun _ => 0))), (q23, .inl (cI, 8, .inl (fun _ => 0))), (q31, .inl (cI, 8, .inl (fun _ => 0))), (q39, .inl (cI, 8, .inl (fun _ => 0))), (q47, .inl (cI, 10, .inl (fun _ => 0)))] := hD
  refine lv_aload_n hx hb dX1_init_57 rfl (lv_at hl 0 rfl) ?_
  refine lv_ldc (v := 65535) hx hb hown (hts _ (List.mem_of_getElem? (i := 12) rfl)) dX1_init_58 ?_
  refine va_put (D := (dC, dI)) (ci := 1) (v := .int 65535) (ty := .int) (C := RX1) (T := TX1) (N := 12) hx hb hts (fun w h => List.mem_cons_of_mem _ (List.mem_append_right _ h)) tyX1 tyX1_ok nmX1 hown hK hP hD hS 0 rfl rfl 7 (by decide) (hts _ (List.mem_of_getElem? (i := 13) rfl)) (fun _ h9 => h9) rfl (by decide +kernel) rfl rfl (Nat.le_of_ble_eq_true rfl) dX1_init_60 (fun H locs hP hD hS => ?_)
  have hP : va_P (dC, dI) vwCl [(h0, .inr (1, [.ref q7, .ref q15, .ref q23, .ref q31, .ref q39, .ref q47, .int 0, .int 65535, .int 0, .int 0, .int 0, .int 0])), (q7, .inl (cI, 8, .inl (fun _ => 0))), (q15, .inl (cI, 8, .inl (fun _ => 0))), (q23, .inl (cI, 8, .inl (fun _ => 0))), (q31, .inl (cI, 8, .inl (fun _ => 0))), (q39, .inl (cI, 8, .inl (fun _ => 0))), (q47, .inl (cI, 10, .inl (fun _ => 0)))] H := hP
  have hD : va_D A [(h0, .inr (1, [.ref q7, .ref q15, .ref q23, .ref q31, .ref q39, .ref q47, .int 0, .int 65535, .int 0, .int 0, .int 0, .int 0])), (q7, .inl (cI, 8, .inl (fun _ => 0))), (q15, .inl (cI, 8, .inl (fun _ => 0))), (q23, .inl (cI, 8, .inl (fun _ => 0))), (q31, .inl (cI, 8, .inl (fun _ => 0))), (q39, .inl (cI, 8, .inl (fun _ => 0))), (q47, .inl (cI, 10, .inl (fun _ => 0)))] := hD
  refine lv_aload_n hx hb dX1_init_63 rfl (lv_at hl 0 rfl) ?_
  refine lv_iconst (v := 0) hx hb dX1_init_64 (by decide) ?_
  refine va_put (D := (dC, dI)) (ci := 1) (v := .int 0) (ty := .int) (C := RX1) (T := TX1) (N := 12) hx hb hts (fun w h => List.mem_cons_of_mem _ (List.mem_append_right _ h)) tyX1 tyX1_ok nmX1 hown hK hP hD hS 0 rfl rfl 8 (by decide) (hts _ (List.mem_of_getElem? (i := 14) rfl)) (fun _ h9 => h9) rfl (by decide +kernel) rfl rfl (Nat.le_of_ble_eq_true rfl) dX1_init_65 (fun H locs hP hD hS => ?_)
  have hP : va_P (dC, dI) vwCl [(h0, .inr (1, [.ref q7, .ref q15, .ref q23, .ref q31, .ref q39, .ref q47, .int 0, .int 65535, .int 0, .int 0, .int 0, .int 0])), (q7, .inl (cI, 8, .inl (fun _ => 0))), (q15, .inl (cI, 8, .inl (fun _ => 0))), (q23, .inl (cI, 8, .inl (fun _ => 0))), (q31, .inl (cI, 8, .inl (fun _ => 0))), (q39, .inl (cI, 8, .inl (fun _ => 0))), (q47, .inl (cI, 10, .inl (fun _ => 0)))] H := hP
  have hD : va_D A [(h0, .inr (1, [.ref q7, .ref q15, .ref q23, .ref q31, .ref q39, .ref q47, .int 0, .int 65535, .int 0, .int 0, .int 0, .int 0])), (q7, .inl (cI, 8, .inl (fun _ => 0))), (q15, .inl (cI, 8, .inl (fun _ => 0))), (q23, .inl (cI, 8, .inl (fun _ => 0))), (q31, .inl (cI, 8, .inl (fun _ => 0))), (q39, .inl (cI, 8, .inl (fun _ => 0))), (q47, .inl (cI, 10, .inl (fun _ => 0)))] := hD
  refine lv_aload_n hx hb dX1_init_68 rfl (lv_at hl 0 rfl) ?_
  refine lv_iconst (v := 0) hx hb dX1_init_69 (by decide) ?_
  refine va_put (D := (dC, dI)) (ci := 1) (v := .int 0) (ty := .int) (C := RX1) (T := TX1) (N := 12) hx hb hts (fun w h => List.mem_cons_of_mem _ (List.mem_append_right _ h)) tyX1 tyX1_ok nmX1 hown hK hP hD hS 0 rfl rfl 9 (by decide) (hts _ (List.mem_of_getElem? (i := 15) rfl)) (fun _ h9 => h9) rfl (by decide +kernel) rfl rfl (Nat.le_of_ble_eq_true rfl) dX1_init_70 (fun H locs hP hD hS => ?_)
  have hP : va_P (dC, dI) vwCl [(h0, .inr (1, [.ref q7, .ref q15, .ref q23, .ref q31, .ref q39, .ref q47, .int 0, .int 65535, .int 0, .int 0, .int 0, .int 0])), (q7, .inl (cI, 8, .inl (fun _ => 0))), (q15, .inl (cI, 8, .inl (fun _ => 0))), (q23, .inl (cI, 8, .inl (fun _ => 0))), (q31, .inl (cI, 8, .inl (fun _ => 0))), (q39, .inl (cI, 8, .inl (fun _ => 0))), (q47, .inl (cI, 10, .inl (fun _ => 0)))] H := hP
  have hD : va_D A [(h0, .inr (1, [.ref q7, .ref q15, .ref q23, .ref q31, .ref q39, .ref q47, .int 0, .int 65535, .int 0, .int 0, .int 0, .int 0])), (q7, .inl (cI, 8, .inl (fun _ => 0))), (q15, .inl (cI, 8, .inl (fun _ => 0))), (q23, .inl (cI, 8, .inl (fun _ => 0))), (q31, .inl (cI, 8, .inl (fun _ => 0))), (q39, .inl (cI, 8, .inl (fun _ => 0))), (q47, .inl (cI, 10, .inl (fun _ => 0)))] := hD
  refine lv_aload_n hx hb dX1_init_73 rfl (lv_at hl 0 rfl) ?_
  refine lv_iconst (v := 0) hx hb dX1_init_74 (by decide) ?_
  refine va_put (D := (dC, dI)) (ci := 1) (v := .int 0) (ty := .int) (C := RX1) (T := TX1) (N := 12) hx hb hts (fun w h => List.mem_cons_of_mem _ (List.mem_append_right _ h)) tyX1 tyX1_ok nmX1 hown hK hP hD hS 0 rfl rfl 10 (by decide) (hts _ (List.mem_of_getElem? (i := 16) rfl)) (fun _ h9 => h9) rfl (by decide +kernel) rfl rfl (Nat.le_of_ble_eq_true rfl) dX1_init_75 (fun H locs hP hD hS => ?_)
  have hP : va_P (dC, dI) vwCl [(h0, .inr (1, [.ref q7, .ref q15, .ref q23, .ref q31, .ref q39, .ref q47, .int 0, .int 65535, .int 0, .int 0, .int 0, .int 0])), (q7, .inl (cI, 8, .inl (fun _ => 0))), (q15, .inl (cI, 8, .inl (fun _ => 0))), (q23, .inl (cI, 8, .inl (fun _ => 0))), (q31, .inl (cI, 8, .inl (fun _ => 0))), (q39, .inl (cI, 8, .inl (fun _ => 0))), (q47, .inl (cI, 10, .inl (fun _ => 0)))] H := hP
  have hD : va_D A [(h0, .inr (1, [.ref q7, .ref q15, .ref q23, .ref q31, .ref q39, .ref q47, .int 0, .int 65535, .int 0, .int 0, .int 0, .int 0])), (q7, .inl (cI, 8, .inl (fun _ => 0))), (q15, .inl (cI, 8, .inl (fun _ => 0))), (q23, .inl (cI, 8, .inl (fun _ => 0))), (q31, .inl (cI, 8, .inl (fun _ => 0))), (q39, .inl (cI, 8, .inl (fun _ => 0))), (q47, .inl (cI, 10, .inl (fun _ => 0)))] := hD
  refine lv_aload_n hx hb dX1_init_78 rfl (lv_at hl 0 rfl) ?_
  refine lv_iconst (v := 1) hx hb dX1_init_79 (by decide) ?_
  refine va_put (D := (dC, dI)) (ci := 1) (v := .int 1) (ty := .int) (C := RX1) (T := TX1) (N := 12) hx hb hts (fun w h => List.mem_cons_of_mem _ (List.mem_append_right _ h)) tyX1 tyX1_ok nmX1 hown hK hP hD hS 0 rfl rfl 11 (by decide) (hts _ (List.mem_of_getElem? (i := 17) rfl)) (fun _ h9 => h9) rfl (by decide +kernel) rfl rfl (Nat.le_of_ble_eq_true rfl) dX1_init_80 (fun H locs hP hD hS => ?_)
  have hP : va_P (dC, dI) vwCl [(h0, .inr (1, [.ref q7, .ref q15, .ref q23, .ref q31, .ref q39, .ref q47, .int 0, .int 65535, .int 0, .int 0, .int 0, .int 1])), (q7, .inl (cI, 8, .inl (fun _ => 0))), (q15, .inl (cI, 8, .inl (fun _ => 0))), (q23, .inl (cI, 8, .inl (fun _ => 0))), (q31, .inl (cI, 8, .inl (fun _ => 0))), (q39, .inl (cI, 8, .inl (fun _ => 0))), (q47, .inl (cI, 10, .inl (fun _ => 0)))] H := hP
  have hD : va_D A [(h0, .inr (1, [.ref q7, .ref q15, .ref q23, .ref q31, .ref q39, .ref q47, .int 0, .int 65535, .int 0, .int 0, .int 0, .int 1])), (q7, .inl (cI, 8, .inl (fun _ => 0))), (q15, .inl (cI, 8, .inl (fun _ => 0))), (q23, .inl (cI, 8, .inl (fun _ => 0))), (q31, .inl (cI, 8, .inl (fun _ => 0))), (q39, .inl (cI, 8, .inl (fun _ => 0))), (q47, .inl (cI, 10, .inl (fun _ => 0)))] := hD
  refine lv_iconst (v := 0) hx hb dX1_init_83 (by decide) ?_
  refine lv_istore_n (lv' := [(1, .int 0), (0, .ref h0)]) hx hb dX1_init_84 rfl hl (by decide) rfl (fun ls hl => ?_)
  refine W.widen (k := 6) (n := 50) (Nat.le_of_ble_eq_true rfl) (Nat.le_of_ble_eq_true rfl) ?_
  refine W.widen (k := 6) (n := 50) (Nat.le_of_ble_eq_true rfl) (Nat.le_of_ble_eq_true rfl) ?_
  refine land_loop hx hb hts hown hK (fun f H locs ls hf hP hD hS => ?_) 10 0 0 (fun _ => 0) _ _ ls rfl nI_0.symm (fun j hj => absurd hj (Nat.not_lt_zero j)) hP hD hS hl
  have hP9 := hP.sub (ws' := [(h0, .inr (1, [.ref q7, .ref q15, .ref q23, .ref q31, .ref q39, .ref q47, .int 0, .int 65535, .int 0, .int 0, .int 0, .int 1])), (q7, .inl (cI, 8, .inl (fun _ => 0))), (q15, .inl (cI, 8, .inl (fun _ => 0))), (q23, .inl (cI, 8, .inl (fun _ => 0))), (q31, .inl (cI, 8, .inl (fun _ => 0))), (q39, .inl (cI, 8, .inl (fun _ => 0))), (q47, .inl (cI, 10, .inl (f)))]) [0, 1, 2, 3, 4, 5, 6] rfl
  have hD9 := hD.sub (ws' := [(h0, .inr (1, [.ref q7, .ref q15, .ref q23, .ref q31, .ref q39, .ref q47, .int 0, .int 65535, .int 0, .int 0, .int 0, .int 1])), (q7, .inl (cI, 8, .inl (fun _ => 0))), (q15, .inl (cI, 8, .inl (fun _ => 0))), (q23, .inl (cI, 8, .inl (fun _ => 0))), (q31, .inl (cI, 8, .inl (fun _ => 0))), (q39, .inl (cI, 8, .inl (fun _ => 0))), (q47, .inl (cI, 10, .inl (f)))]) [0, 1, 2, 3, 4, 5, 6] (by decide) rfl
  refine W.widen (k := 6) (n := 50) (Nat.le_of_ble_eq_true rfl) (Nat.le_of_ble_eq_true rfl) ?_
  exact W.vret hx hb hr (fun t ht hW => ⟨⟨f, rfl, hf, q7, q15, q23, q31, q39, q47, by rw [ht]; exact hP9, va_K.moved hW.alike hK, hD9⟩, hS.F ht⟩) hS.2.2 dX1_init_104
set_option maxHeartbeats 8000000 in
set_option maxRecDepth 100000 in
theorem cin_X4 (l : Launch) (dC : Nat → ClassId) (dI : Nat → Nat → Nat) (cI : ClassId) (h0 : Nat) (sz : Nat) : Met l yX4_init wsX4_init ({ frames := 2, cells := 8, slots := 78, locals := 33 }) (va_Pc [.ref h0] (fun U => U.heap.size = sz ∧ va_P (dC, dI) vwCl [(h0, .inr (4, [.null, .null, .int 0, .int 0]))] U.heap ∧ va_K (dC, dI) vwCl [(cI, .int)] U ∧ va_D (fun _ => True) [(h0, .inr (4, [.null, .null, .int 0, .int 0]))])) (va_Qv (fun (f1 : Nat → Int32) => ∀ j, j < 10 → f1 j = -1) (fun (f1 : Nat → Int32) (t : State) => ∃ (q1 q2 q3 q4 q5 q6 q7 q8 : Nat), va_P (dC, dI) vwCl [(h0, .inr (4, [.ref q1, .ref q8, .int 0, .int 0])), (q1, .inr (1, [.ref q2, .ref q3, .ref q4, .ref q5, .ref q6, .ref q7, .int 0, .int 65535, .int 0, .int 0, .int 0, .int 1])), (q2, .inl (cI, 8, .inl (fun _ => 0))), (q3, .inl (cI, 8, .inl (fun _ => 0))), (q4, .inl (cI, 8, .inl (fun _ => 0))), (q5, .inl (cI, 8, .inl (fun _ => 0))), (q6, .inl (cI, 8, .inl (fun _ => 0))), (q7, .inl (cI, 10, .inl (f1))), (q8, .inl (cI, 16, .inl (fun _ => 0)))] t.heap ∧ va_K (dC, dI) vwCl [(cI, .int)] t ∧ va_D (va_A [(h0, .inr (4, [.null, .null, .int 0, .int 0]))] sz) [(h0, .inr (4, [.ref q1, .ref q8, .int 0, .int 0])), (q1, .inr (1, [.ref q2, .ref q3, .ref q4, .ref q5, .ref q6, .ref q7, .int 0, .int 65535, .int 0, .int 0, .int 0, .int 1])), (q2, .inl (cI, 8, .inl (fun _ => 0))), (q3, .inl (cI, 8, .inl (fun _ => 0))), (q4, .inl (cI, 8, .inl (fun _ => 0))), (q5, .inl (cI, 8, .inl (fun _ => 0))), (q6, .inl (cI, 8, .inl (fun _ => 0))), (q7, .inl (cI, 10, .inl (f1))), (q8, .inl (cI, 16, .inl (fun _ => 0)))]) (va_A [(h0, .inr (4, [.null, .null, .int 0, .int 0]))] sz)) 8 78 (va_A [(h0, .inr (4, [.null, .null, .int 0, .int 0]))] sz) := by
  refine Met.ofW (cc := cX4_init) (maxL := 1) (ret := none) (by decide) rfl ?_
  intro p e s m args below meth c s₁ B hml hv
  obtain ⟨rfl, hsz, hP, hK, hD0⟩ := hv
  have hx := B.exec
  have hb := B.bytes
  have hr := B.returns
  have hts := atoms_spec (ws := wsX4_init) B.pre
  have hown : s.vm.findClass RX4 = some m.cls := findClass_of_methodNamed B.named
  have hlocks := B.notSynchronized
  have hin : meth.name = "<init>" := (name_of_methodNamed B.named B.method).1
  subst hsz
  have hD := hD0.self (sz := s.heap.size)
  generalize hAe : va_A [(h0, .inr (4, [.null, .null, .int 0, .int 0]))] s.heap.size = A at hD ⊢
  have hA : ∀ q : Nat, s.heap.size ≤ q → A q := fun q h => by rw [← hAe]; exact Or.inr h
  have hS : va_S A s.heap s.heap [] := va_S.rf
  have hP : va_P (dC, dI) vwCl [(h0, .inr (4, [.null, .null, .int 0, .int 0]))] s.heap := hP
  have hl := lv_entry ([.ref h0]) (n := 1) (Nat.le_of_ble_eq_true rfl)
  rw [lg_entry_eq]
  generalize (lg_sl ([.ref h0]) ++ List.replicate (1 - (lg_sl ([.ref h0])).length) Slot.unset).toArray = ls at hl ⊢
  have hl : lv_has ls 1 [(0, .ref h0)] := hl
  refine lv_aload_n hx hb dX4_init_0 rfl (lv_at hl 0 rfl) ?_
  refine W.objInit hx hb hown (hts _ (List.mem_of_getElem? (i := 1) rfl)) (hts _ (List.mem_of_getElem? (i := 2) rfl)) (hts _ (List.mem_of_getElem? (i := 3) rfl)) rfl (by rw [hml]; exact hl.1) rfl dX4_init_1 (Nat.le_of_ble_eq_true rfl) (Nat.le_of_ble_eq_true rfl) ?_
  refine W.eq (g2 := F0 m 4 ls []) rfl ?_
  refine lv_aload_n hx hb dX4_init_4 rfl (lv_at hl 0 rfl) ?_
  refine va_new (ci := 1) (fs := [.null, .null, .null, .null, .null, .null, .int 0, .int 0, .int 0, .int 0, .int 0, .int 0]) (C := RX1) (T := TX1) (N := 12) hx hb hts (fun w h => List.mem_cons_of_mem _ (List.mem_append_left _ (List.mem_append_right _ h))) tyX1 tyX1_ok hown (hts _ (List.mem_of_getElem? (i := 4) rfl)) (hts _ (List.mem_of_getElem? (i := 5) rfl)) (hts _ (List.mem_of_getElem? (i := 6) rfl)) hK hP hD hS hA rfl (fun j hj => by rcases (show j = 0 ∨ j = 1 ∨ j = 2 ∨ j = 3 ∨ j = 4 ∨ j = 5 ∨ j = 6 ∨ j = 7 ∨ j = 8 ∨ j = 9 ∨ j = 10 ∨ j = 11 by omega) with rfl | rfl | rfl | rfl | rfl | rfl | rfl | rfl | rfl | rfl | rfl | rfl <;> rfl) (Nat.le_of_ble_eq_true rfl) (Nat.le_of_ble_eq_true rfl) dX4_init_5 (fun o5 H hP hD hS => ?_)
  have hP : va_P (dC, dI) vwCl [(h0, .inr (4, [.null, .null, .int 0, .int 0])), (o5, .inr (1, [.null, .null, .null, .null, .null, .null, .int 0, .int 0, .int 0, .int 0, .int 0, .int 0]))] H := hP
  have hD : va_D A [(h0, .inr (4, [.null, .null, .int 0, .int 0])), (o5, .inr (1, [.null, .null, .null, .null, .null, .null, .int 0, .int 0, .int 0, .int 0, .int 0, .int 0]))] := hD
  refine W.widen (k := 1) (n := 12) (Nat.le_of_ble_eq_true rfl) (Nat.le_of_ble_eq_true rfl) ?_
  refine lv_dup hx hb dX4_init_8 rfl ?_
  have hPc := hP.sub (ws' := [(o5, .inr (1, [.null, .null, .null, .null, .null, .null, .int 0, .int 0, .int 0, .int 0, .int 0, .int 0]))]) [1] rfl
  have hDc := hD.sub (ws' := [(o5, .inr (1, [.null, .null, .null, .null, .null, .null, .int 0, .int 0, .int 0, .int 0, .int 0, .int 0]))]) [1] (by decide) rfl
  have hKc := hK.sub (tys' := [(cI, .int)]) [0] rfl
  have hFc := va_free (wc := [(o5, .inr (1, [.null, .null, .null, .null, .null, .null, .int 0, .int 0, .int 0, .int 0, .int 0, .int 0]))]) hD hS hA [1] rfl
  refine va_callv (va_runI (As := []) (rest := [.ref o5, .ref h0]) ⟨hx, hb, hml, hown, hts⟩ (cin_X1 l dC dI cI o5 H.size) (cwI 0 hts gX4_init_X1_init rfl rfl rfl (hts _ (List.mem_of_getElem? (i := 6) rfl)) (hts _ (List.mem_of_getElem? (i := 12) rfl)) (hts _ (List.mem_of_getElem? (i := 13) rfl)) rfl (by decide +kernel) ⟨Nat.le_of_ble_eq_true rfl, Nat.le_of_ble_eq_true rfl⟩) ⟨fun a U g mk q => by obtain ⟨q0, q1, qP, qK, qD⟩ := q; exact ⟨q0, q1, qP, va_K.moved (u := U) (U := U.calling g mk a) (Vm.Alike.refl U.vm) qK, qD⟩, fun U hU hW => ⟨rfl, by rw [hU], by rw [hU]; exact hPc, va_K.moved hW.alike hKc, hDc.weaken (fun _ _ _ _ => trivial)⟩⟩ rfl rfl hl.1 rfl (lv_room (Nat.le_of_ble_eq_true rfl)) dX4_init_9 ⟨Nat.le_of_ble_eq_true rfl, Nat.le_of_ble_eq_true rfl⟩) hS (fun q _ h => hFc q h) hFc (fun u t H1 locs ht hvm hw hB hz1 hk1 hS => ?_)
  obtain ⟨c9f1, rfl⟩ : ∃ z, z = u := ⟨_, rfl⟩
  have w9 : ∀ j, j < 10 → c9f1 j = -1 := hw
  obtain ⟨c9q1, c9q2, c9q3, c9q4, c9q5, c9q6, hP1, hK1, hD1⟩ := hB
  rw [ht] at hP1
  obtain ⟨hP, hD⟩ := va_join (wr := [(h0, .inr (4, [.null, .null, .int 0, .int 0]))]) (w1 := [(o5, .inr (1, [.ref c9q1, .ref c9q2, .ref c9q3, .ref c9q4, .ref c9q5, .ref c9q6, .int 0, .int 65535, .int 0, .int 0, .int 0, .int 1])), (c9q1, .inl (cI, 8, .inl (fun _ => 0))), (c9q2, .inl (cI, 8, .inl (fun _ => 0))), (c9q3, .inl (cI, 8, .inl (fun _ => 0))), (c9q4, .inl (cI, 8, .inl (fun _ => 0))), (c9q5, .inl (cI, 8, .inl (fun _ => 0))), (c9q6, .inl (cI, 10, .inl (c9f1)))]) hP hD [1] [0] rfl rfl (by decide) (by decide) hk1 hFc hP1 hD1
  clear hP1 hD1 hK1 hPc hDc hFc
  generalize H1 = H at hP hS ⊢
  have hP : va_P (dC, dI) vwCl [(h0, .inr (4, [.null, .null, .int 0, .int 0])), (o5, .inr (1, [.ref c9q1, .ref c9q2, .ref c9q3, .ref c9q4, .ref c9q5, .ref c9q6, .int 0, .int 65535, .int 0, .int 0, .int 0, .int 1])), (c9q1, .inl (cI, 8, .inl (fun _ => 0))), (c9q2, .inl (cI, 8, .inl (fun _ => 0))), (c9q3, .inl (cI, 8, .inl (fun _ => 0))), (c9q4, .inl (cI, 8, .inl (fun _ => 0))), (c9q5, .inl (cI, 8, .inl (fun _ => 0))), (c9q6, .inl (cI, 10, .inl (c9f1)))] H := hP
  have hD : va_D A [(h0, .inr (4, [.null, .null, .int 0, .int 0])), (o5, .inr (1, [.ref c9q1, .ref c9q2, .ref c9q3, .ref c9q4, .ref c9q5, .ref c9q6, .int 0, .int 65535, .int 0, .int 0, .int 0, .int 1])), (c9q1, .inl (cI, 8, .inl (fun _ => 0))), (c9q2, .inl (cI, 8, .inl (fun _ => 0))), (c9q3, .inl (cI, 8, .inl (fun _ => 0))), (c9q4, .inl (cI, 8, .inl (fun _ => 0))), (c9q5, .inl (cI, 8, .inl (fun _ => 0))), (c9q6, .inl (cI, 10, .inl (c9f1)))] := hD
  refine W.widen (k := 7) (n := 62) (Nat.le_of_ble_eq_true rfl) (Nat.le_of_ble_eq_true rfl) ?_
  refine va_putF (D := (dC, dI)) (ci := 4) (v := .ref o5) (ty := .object "SharedShadow$Land") (C := RX4) (T := TX4) (N := 4) hx hb hts (fun w h => List.mem_cons_of_mem _ (List.mem_append_right _ h)) tyX4 tyX4_ok nmX4 hown hK hP hD hS 0 rfl rfl 0 (by decide) (hts _ (List.mem_of_getElem? (i := 7) rfl)) (fun _ h9 => h9) rfl hin rfl (by decide +kernel) rfl rfl (Nat.le_of_ble_eq_true rfl) dX4_init_12 (fun H locs hP hD hS => ?_)
  have hP : va_P (dC, dI) vwCl [(h0, .inr (4, [.ref o5, .null, .int 0, .int 0])), (o5, .inr (1, [.ref c9q1, .ref c9q2, .ref c9q3, .ref c9q4, .ref c9q5, .ref c9q6, .int 0, .int 65535, .int 0, .int 0, .int 0, .int 1])), (c9q1, .inl (cI, 8, .inl (fun _ => 0))), (c9q2, .inl (cI, 8, .inl (fun _ => 0))), (c9q3, .inl (cI, 8, .inl (fun _ => 0))), (c9q4, .inl (cI, 8, .inl (fun _ => 0))), (c9q5, .inl (cI, 8, .inl (fun _ => 0))), (c9q6, .inl (cI, 10, .inl (c9f1)))] H := hP
  have hD : va_D A [(h0, .inr (4, [.ref o5, .null, .int 0, .int 0])), (o5, .inr (1, [.ref c9q1, .ref c9q2, .ref c9q3, .ref c9q4, .ref c9q5, .ref c9q6, .int 0, .int 65535, .int 0, .int 0, .int 0, .int 1])), (c9q1, .inl (cI, 8, .inl (fun _ => 0))), (c9q2, .inl (cI, 8, .inl (fun _ => 0))), (c9q3, .inl (cI, 8, .inl (fun _ => 0))), (c9q4, .inl (cI, 8, .inl (fun _ => 0))), (c9q5, .inl (cI, 8, .inl (fun _ => 0))), (c9q6, .inl (cI, 10, .inl (c9f1)))] := hD
  refine lv_aload_n hx hb dX4_init_15 rfl (lv_at hl 0 rfl) ?_
  refine lv_bipush (v := 16) hx hb dX4_init_16 (by decide) ?_
  refine va_newa (atype := .int) (a0 := (16, .inl (fun _ => 0))) (N' := 16) hx hb (hts _ (List.mem_of_getElem? (i := 8) rfl)) rfl hK hP hD hS hA (fun _ => rfl) (by decide) (by decide) (Nat.le_of_ble_eq_true rfl) (Nat.le_of_ble_eq_true rfl) (Nat.le_of_ble_eq_true rfl) dX4_init_18 (fun q18 cA H hK1 hP hD hS => ?_)
  have eA1 : cA = cI := kk_one hK1
  rw [eA1] at hP hD
  have hP : va_P (dC, dI) vwCl [(h0, .inr (4, [.ref o5, .null, .int 0, .int 0])), (o5, .inr (1, [.ref c9q1, .ref c9q2, .ref c9q3, .ref c9q4, .ref c9q5, .ref c9q6, .int 0, .int 65535, .int 0, .int 0, .int 0, .int 1])), (c9q1, .inl (cI, 8, .inl (fun _ => 0))), (c9q2, .inl (cI, 8, .inl (fun _ => 0))), (c9q3, .inl (cI, 8, .inl (fun _ => 0))), (c9q4, .inl (cI, 8, .inl (fun _ => 0))), (c9q5, .inl (cI, 8, .inl (fun _ => 0))), (c9q6, .inl (cI, 10, .inl (c9f1))), (q18, .inl (cI, 16, .inl (fun _ => 0)))] H := hP
  have hD : va_D A [(h0, .inr (4, [.ref o5, .null, .int 0, .int 0])), (o5, .inr (1, [.ref c9q1, .ref c9q2, .ref c9q3, .ref c9q4, .ref c9q5, .ref c9q6, .int 0, .int 65535, .int 0, .int 0, .int 0, .int 1])), (c9q1, .inl (cI, 8, .inl (fun _ => 0))), (c9q2, .inl (cI, 8, .inl (fun _ => 0))), (c9q3, .inl (cI, 8, .inl (fun _ => 0))), (c9q4, .inl (cI, 8, .inl (fun _ => 0))), (c9q5, .inl (cI, 8, .inl (fun _ => 0))), (c9q6, .inl (cI, 10, .inl (c9f1))), (q18, .inl (cI, 16, .inl (fun _ => 0)))] := hD
  refine W.widen (k := 8) (n := 78) (Nat.le_of_ble_eq_true rfl) (Nat.le_of_ble_eq_true rfl) ?_
  refine va_putF (D := (dC, dI)) (ci := 4) (v := .ref q18) (ty := .array .int) (C := RX4) (T := TX4) (N := 4) hx hb hts (fun w h => List.mem_cons_of_mem _ (List.mem_append_right _ h)) tyX4 tyX4_ok nmX4 hown hK hP hD hS 0 rfl rfl 1 (by decide) (hts _ (List.mem_of_getElem? (i := 9) rfl)) (fun _ h9 => h9) rfl hin rfl (by decide +kernel) rfl rfl (Nat.le_of_ble_eq_true rfl) dX4_init_20 (fun H locs hP hD hS => ?_)
  have hP : va_P (dC, dI) vwCl [(h0, .inr (4, [.ref o5, .ref q18, .int 0, .int 0])), (o5, .inr (1, [.ref c9q1, .ref c9q2, .ref c9q3, .ref c9q4, .ref c9q5, .ref c9q6, .int 0, .int 65535, .int 0, .int 0, .int 0, .int 1])), (c9q1, .inl (cI, 8, .inl (fun _ => 0))), (c9q2, .inl (cI, 8, .inl (fun _ => 0))), (c9q3, .inl (cI, 8, .inl (fun _ => 0))), (c9q4, .inl (cI, 8, .inl (fun _ => 0))), (c9q5, .inl (cI, 8, .inl (fun _ => 0))), (c9q6, .inl (cI, 10, .inl (c9f1))), (q18, .inl (cI, 16, .inl (fun _ => 0)))] H := hP
  have hD : va_D A [(h0, .inr (4, [.ref o5, .ref q18, .int 0, .int 0])), (o5, .inr (1, [.ref c9q1, .ref c9q2, .ref c9q3, .ref c9q4, .ref c9q5, .ref c9q6, .int 0, .int 65535, .int 0, .int 0, .int 0, .int 1])), (c9q1, .inl (cI, 8, .inl (fun _ => 0))), (c9q2, .inl (cI, 8, .inl (fun _ => 0))), (c9q3, .inl (cI, 8, .inl (fun _ => 0))), (c9q4, .inl (cI, 8, .inl (fun _ => 0))), (c9q5, .inl (cI, 8, .inl (fun _ => 0))), (c9q6, .inl (cI, 10, .inl (c9f1))), (q18, .inl (cI, 16, .inl (fun _ => 0)))] := hD
  refine lv_aload_n hx hb dX4_init_23 rfl (lv_at hl 0 rfl) ?_
  refine lv_iconst (v := 0) hx hb dX4_init_24 (by decide) ?_
  refine va_put (D := (dC, dI)) (ci := 4) (v := .int 0) (ty := .int) (C := RX4) (T := TX4) (N := 4) hx hb hts (fun w h => List.mem_cons_of_mem _ (List.mem_append_right _ h)) tyX4 tyX4_ok nmX4 hown hK hP hD hS 0 rfl rfl 2 (by decide) (hts _ (List.mem_of_getElem? (i := 10) rfl)) (fun _ h9 => h9) rfl (by decide +kernel) rfl rfl (Nat.le_of_ble_eq_true rfl) dX4_init_25 (fun H locs hP hD hS => ?_)
  have hP : va_P (dC, dI) vwCl [(h0, .inr (4, [.ref o5, .ref q18, .int 0, .int 0])), (o5, .inr (1, [.ref c9q1, .ref c9q2, .ref c9q3, .ref c9q4, .ref c9q5, .ref c9q6, .int 0, .int 65535, .int 0, .int 0, .int 0, .int 1])), (c9q1, .inl (cI, 8, .inl (fun _ => 0))), (c9q2, .inl (cI, 8, .inl (fun _ => 0))), (c9q3, .inl (cI, 8, .inl (fun _ => 0))), (c9q4, .inl (cI, 8, .inl (fun _ => 0))), (c9q5, .inl (cI, 8, .inl (fun _ => 0))), (c9q6, .inl (cI, 10, .inl (c9f1))), (q18, .inl (cI, 16, .inl (fun _ => 0)))] H := hP
  have hD : va_D A [(h0, .inr (4, [.ref o5, .ref q18, .int 0, .int 0])), (o5, .inr (1, [.ref c9q1, .ref c9q2, .ref c9q3, .ref c9q4, .ref c9q5, .ref c9q6, .int 0, .int 65535, .int 0, .int 0, .int 0, .int 1])), (c9q1, .inl (cI, 8, .inl (fun _ => 0))), (c9q2, .inl (cI, 8, .inl (fun _ => 0))), (c9q3, .inl (cI, 8, .inl (fun _ => 0))), (c9q4, .inl (cI, 8, .inl (fun _ => 0))), (c9q5, .inl (cI, 8, .inl (fun _ => 0))), (c9q6, .inl (cI, 10, .inl (c9f1))), (q18, .inl (cI, 16, .inl (fun _ => 0)))] := hD
  refine lv_aload_n hx hb dX4_init_28 rfl (lv_at hl 0 rfl) ?_
  refine lv_iconst (v := 0) hx hb dX4_init_29 (by decide) ?_
  refine va_put (D := (dC, dI)) (ci := 4) (v := .int 0) (ty := .int) (C := RX4) (T := TX4) (N := 4) hx hb hts (fun w h => List.mem_cons_of_mem _ (List.mem_append_right _ h)) tyX4 tyX4_ok nmX4 hown hK hP hD hS 0 rfl rfl 3 (by decide) (hts _ (List.mem_of_getElem? (i := 11) rfl)) (fun _ h9 => h9) rfl (by decide +kernel) rfl rfl (Nat.le_of_ble_eq_true rfl) dX4_init_30 (fun H locs hP hD hS => ?_)
  have hP : va_P (dC, dI) vwCl [(h0, .inr (4, [.ref o5, .ref q18, .int 0, .int 0])), (o5, .inr (1, [.ref c9q1, .ref c9q2, .ref c9q3, .ref c9q4, .ref c9q5, .ref c9q6, .int 0, .int 65535, .int 0, .int 0, .int 0, .int 1])), (c9q1, .inl (cI, 8, .inl (fun _ => 0))), (c9q2, .inl (cI, 8, .inl (fun _ => 0))), (c9q3, .inl (cI, 8, .inl (fun _ => 0))), (c9q4, .inl (cI, 8, .inl (fun _ => 0))), (c9q5, .inl (cI, 8, .inl (fun _ => 0))), (c9q6, .inl (cI, 10, .inl (c9f1))), (q18, .inl (cI, 16, .inl (fun _ => 0)))] H := hP
  have hD : va_D A [(h0, .inr (4, [.ref o5, .ref q18, .int 0, .int 0])), (o5, .inr (1, [.ref c9q1, .ref c9q2, .ref c9q3, .ref c9q4, .ref c9q5, .ref c9q6, .int 0, .int 65535, .int 0, .int 0, .int 0, .int 1])), (c9q1, .inl (cI, 8, .inl (fun _ => 0))), (c9q2, .inl (cI, 8, .inl (fun _ => 0))), (c9q3, .inl (cI, 8, .inl (fun _ => 0))), (c9q4, .inl (cI, 8, .inl (fun _ => 0))), (c9q5, .inl (cI, 8, .inl (fun _ => 0))), (c9q6, .inl (cI, 10, .inl (c9f1))), (q18, .inl (cI, 16, .inl (fun _ => 0)))] := hD
  have hP9 := hP.sub (ws' := [(h0, .inr (4, [.ref o5, .ref q18, .int 0, .int 0])), (o5, .inr (1, [.ref c9q1, .ref c9q2, .ref c9q3, .ref c9q4, .ref c9q5, .ref c9q6, .int 0, .int 65535, .int 0, .int 0, .int 0, .int 1])), (c9q1, .inl (cI, 8, .inl (fun _ => 0))), (c9q2, .inl (cI, 8, .inl (fun _ => 0))), (c9q3, .inl (cI, 8, .inl (fun _ => 0))), (c9q4, .inl (cI, 8, .inl (fun _ => 0))), (c9q5, .inl (cI, 8, .inl (fun _ => 0))), (c9q6, .inl (cI, 10, .inl (c9f1))), (q18, .inl (cI, 16, .inl (fun _ => 0)))]) [0, 1, 2, 3, 4, 5, 6, 7, 8] rfl
  have hD9 := hD.sub (ws' := [(h0, .inr (4, [.ref o5, .ref q18, .int 0, .int 0])), (o5, .inr (1, [.ref c9q1, .ref c9q2, .ref c9q3, .ref c9q4, .ref c9q5, .ref c9q6, .int 0, .int 65535, .int 0, .int 0, .int 0, .int 1])), (c9q1, .inl (cI, 8, .inl (fun _ => 0))), (c9q2, .inl (cI, 8, .inl (fun _ => 0))), (c9q3, .inl (cI, 8, .inl (fun _ => 0))), (c9q4, .inl (cI, 8, .inl (fun _ => 0))), (c9q5, .inl (cI, 8, .inl (fun _ => 0))), (c9q6, .inl (cI, 10, .inl (c9f1))), (q18, .inl (cI, 16, .inl (fun _ => 0)))]) [0, 1, 2, 3, 4, 5, 6, 7, 8] (by decide) rfl
  refine W.widen (k := 8) (n := 78) (Nat.le_of_ble_eq_true rfl) (Nat.le_of_ble_eq_true rfl) ?_
  exact W.vret hx hb hr (fun t ht hW => ⟨⟨c9f1, rfl, w9, o5, c9q1, c9q2, c9q3, c9q4, c9q5, c9q6, q18, by rw [ht]; exact hP9, va_K.moved hW.alike hK, hD9⟩, hS.F ht⟩) hS.2.2 dX4_init_33
set_option maxHeartbeats 8000000 in
set_option maxRecDepth 100000 in
theorem cin_X3 (l : Launch) (dC : Nat → ClassId) (dI : Nat → Nat → Nat) (cI : ClassId) (h0 : Nat) (sz : Nat) : Met l yX3_init wsX3_init ({ frames := 2, cells := 13, slots := 668, locals := 33 }) (va_Pc [.ref h0] (fun U => U.heap.size = sz ∧ va_P (dC, dI) vwCl [(h0, .inr (3, [.null, .null, .null, .null, .null, .null, .int 0, .int 0]))] U.heap ∧ va_K (dC, dI) vwCl [(cI, .int)] U ∧ va_D (fun _ => True) [(h0, .inr (3, [.null, .null, .null, .null, .null, .null, .int 0, .int 0]))] ∧ XNest U)) (va_Qv (fun (f1 : Nat → Int32) => ∀ j, j < 10 → f1 j = -1) (fun (f1 : Nat → Int32) (t : State) => ∃ (q1 q2 q3 q4 q5 q6 q7 q8 q9 q10 q11 q12 q13 : Nat), va_P (dC, dI) vwCl [(h0, .inr (3, [.ref q1, .ref q3, .ref q10, .ref q11, .ref q12, .ref q13, .int 0, .int 0])), (q1, .inr (6, [.ref q2, .int 0])), (q2, .inl (cI, 120, .inl (fun _ => 0))), (q3, .inr (1, [.ref q4, .ref q5, .ref q6, .ref q7, .ref q8, .ref q9, .int 0, .int 65535, .int 0, .int 0, .int 0, .int 1])), (q4, .inl (cI, 8, .inl (fun _ => 0))), (q5, .inl (cI, 8, .inl (fun _ => 0))), (q6, .inl (cI, 8, .inl (fun _ => 0))), (q7, .inl (cI, 8, .inl (fun _ => 0))), (q8, .inl (cI, 8, .inl (fun _ => 0))), (q9, .inl (cI, 10, .inl (f1))), (q10, .inl (cI, 121, .inl (fun _ => 0))), (q11, .inl (cI, 121, .inl (fun _ => 0))), (q12, .inl (cI, 121, .inl (fun _ => 0))), (q13, .inl (cI, 121, .inl (fun _ => 0)))] t.heap ∧ va_K (dC, dI) vwCl [(cI, .int)] t ∧ va_D (va_A [(h0, .inr (3, [.null, .null, .null, .null, .null, .null, .int 0, .int 0]))] sz) [(h0, .inr (3, [.ref q1, .ref q3, .ref q10, .ref q11, .ref q12, .ref q13, .int 0, .int 0])), (q1, .inr (6, [.ref q2, .int 0])), (q2, .inl (cI, 120, .inl (fun _ => 0))), (q3, .inr (1, [.ref q4, .ref q5, .ref q6, .ref q7, .ref q8, .ref q9, .int 0, .int 65535, .int 0, .int 0, .int 0, .int 1])), (q4, .inl (cI, 8, .inl (fun _ => 0))), (q5, .inl (cI, 8, .inl (fun _ => 0))), (q6, .inl (cI, 8, .inl (fun _ => 0))), (q7, .inl (cI, 8, .inl (fun _ => 0))), (q8, .inl (cI, 8, .inl (fun _ => 0))), (q9, .inl (cI, 10, .inl (f1))), (q10, .inl (cI, 121, .inl (fun _ => 0))), (q11, .inl (cI, 121, .inl (fun _ => 0))), (q12, .inl (cI, 121, .inl (fun _ => 0))), (q13, .inl (cI, 121, .inl (fun _ => 0)))]) (va_A [(h0, .inr (3, [.null, .null, .null, .null, .null, .null, .int 0, .int 0]))] sz)) 13 668 (va_A [(h0, .inr (3, [.null, .null, .null, .null, .null, .null, .int 0, .int 0]))] sz) := by
  refine Met.ofW (cc := cX3_init) (maxL := 1) (ret := none) (by decide) rfl ?_
  intro p e s m args below meth c s₁ B hml hv
  obtain ⟨rfl, hsz, hP, hK, hD0, hX⟩ := hv
  have hx := B.exec
  have hb := B.bytes
  have hr := B.returns
  have hts := atoms_spec (ws := wsX3_init) B.pre
  have hown : s.vm.findClass RX3 = some m.cls := findClass_of_methodNamed B.named
  have hlocks := B.notSynchronized
  have hin : meth.name = "<init>" := (name_of_methodNamed B.named B.method).1
  subst hsz
  have hD := hD0.self (sz := s.heap.size)
  generalize hAe : va_A [(h0, .inr (3, [.null, .null, .null, .null, .null, .null, .int 0, .int 0]))] s.heap.size = A at hD ⊢
  have hA : ∀ q : Nat, s.heap.size ≤ q → A q := fun q h => by rw [← hAe]; exact Or.inr h
  have hS : va_S A s.heap s.heap [] := va_S.rf
  have hP : va_P (dC, dI) vwCl [(h0, .inr (3, [.null, .null, .null, .null, .null, .null, .int 0, .int 0]))] s.heap := hP
  have hl := lv_entry ([.ref h0]) (n := 1) (Nat.le_of_ble_eq_true rfl)
  rw [lg_entry_eq]
  generalize (lg_sl ([.ref h0]) ++ List.replicate (1 - (lg_sl ([.ref h0])).length) Slot.unset).toArray = ls at hl ⊢
  have hl : lv_has ls 1 [(0, .ref h0)] := hl
  have hN : XNest s := hX
  refine lv_aload_n hx hb dX3_init_0 rfl (lv_at hl 0 rfl) ?_
  refine W.objInit hx hb hown (hts _ (List.mem_of_getElem? (i := 1) rfl)) (hts _ (List.mem_of_getElem? (i := 2) rfl)) (hts _ (List.mem_of_getElem? (i := 3) rfl)) rfl (by rw [hml]; exact hl.1) rfl dX3_init_1 (Nat.le_of_ble_eq_true rfl) (Nat.le_of_ble_eq_true rfl) ?_
  refine W.eq (g2 := F0 m 4 ls []) rfl ?_
  refine lv_aload_n hx hb dX3_init_4 rfl (lv_at hl 0 rfl) ?_
  refine va_new (ci := 6) (fs := [.null, .int 0]) (C := RX6) (T := TX6) (N := 2) hx hb hts (fun w h => List.mem_cons_of_mem _ (List.mem_append_left _ (List.mem_append_left _ (List.mem_append_right _ h)))) tyX6 tyX6_ok hown (hts _ (List.mem_of_getElem? (i := 4) rfl)) (hts _ (List.mem_of_getElem? (i := 5) rfl)) (hts _ (List.mem_of_getElem? (i := 6) rfl)) hK hP hD hS hA rfl (fun j hj => by rcases (show j = 0 ∨ j = 1 by omega) with rfl | rfl <;> rfl) (Nat.le_of_ble_eq_true rfl) (Nat.le_of_ble_eq_true rfl) dX3_init_5 (fun o5 H hP hD hS => ?_)
  have hP : va_P (dC, dI) vwCl [(h0, .inr (3, [.null, .null, .null, .null, .null, .null, .int 0, .int 0])), (o5, .inr (6, [.null, .int 0]))] H := hP
  have hD : va_D A [(h0, .inr (3, [.null, .null, .null, .null, .null, .null, .int 0, .int 0])), (o5, .inr (6, [.null, .int 0]))] := hD
  refine W.widen (k := 1) (n := 2) (Nat.le_of_ble_eq_true rfl) (Nat.le_of_ble_eq_true rfl) ?_
  refine lv_dup hx hb dX3_init_8 rfl ?_
  have hPc := hP.sub (ws' := [(o5, .inr (6, [.null, .int 0]))]) [1] rfl
  have hDc := hD.sub (ws' := [(o5, .inr (6, [.null, .int 0]))]) [1] (by decide) rfl
  have hKc := hK.sub (tys' := [(cI, .int)]) [0] rfl
  have hFc := va_free (wc := [(o5, .inr (6, [.null, .int 0]))]) hD hS hA [1] rfl
  refine va_callv (va_runIN (host := "SharedShadow") (As := []) (rest := [.ref o5, .ref h0]) ⟨hx, hb, hml, hown, hts⟩ (cin_X6 l dC dI cI o5 H.size) ⟨va_cnB 0 hts gX3_init_X6_init_n11 rfl rfl rfl (hN _ (List.mem_of_getElem? (i := 4) rfl)) (hts _ (List.mem_of_getElem? (i := 6) rfl)) (by decide +kernel) ⟨Nat.le_of_ble_eq_true rfl, Nat.le_of_ble_eq_true rfl⟩, rfl, (hts _ (List.mem_of_getElem? (i := 19) rfl))⟩ ⟨fun a U g mk q => by obtain ⟨q0, q1, qP, qK, qD⟩ := q; exact ⟨q0, q1, qP, va_K.moved (u := U) (U := U.calling g mk a) (Vm.Alike.refl U.vm) qK, qD⟩, fun U hU hW => ⟨rfl, by rw [hU], by rw [hU]; exact hPc, va_K.moved hW.alike hKc, hDc.weaken (fun _ _ _ _ => trivial)⟩⟩ rfl rfl hl.1 rfl (lv_room (Nat.le_of_ble_eq_true rfl)) dX3_init_9 ⟨Nat.le_of_ble_eq_true rfl, Nat.le_of_ble_eq_true rfl⟩) hS (fun q _ h => hFc q h) hFc (fun u t H1 locs ht hvm hw hB hz1 hk1 hS => ?_)
  obtain ⟨c9q1, hP1, hK1, hD1⟩ := hB
  rw [ht] at hP1
  obtain ⟨hP, hD⟩ := va_join (wr := [(h0, .inr (3, [.null, .null, .null, .null, .null, .null, .int 0, .int 0]))]) (w1 := [(o5, .inr (6, [.ref c9q1, .int 0])), (c9q1, .inl (cI, 120, .inl (fun _ => 0)))]) hP hD [1] [0] rfl rfl (by decide) (by decide) hk1 hFc hP1 hD1
  clear hP1 hD1 hK1 hPc hDc hFc
  generalize H1 = H at hP hS ⊢
  have hP : va_P (dC, dI) vwCl [(h0, .inr (3, [.null, .null, .null, .null, .null, .null, .int 0, .int 0])), (o5, .inr (6, [.ref c9q1, .int 0])), (c9q1, .inl (cI, 120, .inl (fun _ => 0)))] H := hP
  have hD : va_D A [(h0, .inr (3, [.null, .null, .null, .null, .null, .null, .int 0, .int 0])), (o5, .inr (6, [.ref c9q1, .int 0])), (c9q1, .inl (cI, 120, .inl (fun _ => 0)))] := hD
  refine W.widen (k := 2) (n := 122) (Nat.le_of_ble_eq_true rfl) (Nat.le_of_ble_eq_true rfl) ?_
  refine va_putF (D := (dC, dI)) (ci := 3) (v := .ref o5) (ty := .object "SharedShadow$Tape") (C := RX3) (T := TX3) (N := 8) hx hb hts (fun w h => List.mem_cons_of_mem _ (List.mem_append_left _ (List.mem_append_right _ h))) tyX3 tyX3_ok nmX3 hown hK hP hD hS 0 rfl rfl 0 (by decide) (hts _ (List.mem_of_getElem? (i := 7) rfl)) (fun _ h9 => h9) rfl hin rfl (by decide +kernel) rfl rfl (Nat.le_of_ble_eq_true rfl) dX3_init_12 (fun H locs hP hD hS => ?_)
  have hP : va_P (dC, dI) vwCl [(h0, .inr (3, [.ref o5, .null, .null, .null, .null, .null, .int 0, .int 0])), (o5, .inr (6, [.ref c9q1, .int 0])), (c9q1, .inl (cI, 120, .inl (fun _ => 0)))] H := hP
  have hD : va_D A [(h0, .inr (3, [.ref o5, .null, .null, .null, .null, .null, .int 0, .int 0])), (o5, .inr (6, [.ref c9q1, .int 0])), (c9q1, .inl (cI, 120, .inl (fun _ => 0)))] := hD
  refine lv_aload_n hx hb dX3_init_15 rfl (lv_at hl 0 rfl) ?_
  refine va_new (ci := 1) (fs := [.null, .null, .null, .null, .null, .null, .int 0, .int 0, .int 0, .int 0, .int 0, .int 0]) (C := RX1) (T := TX1) (N := 12) hx hb hts (fun w h => List.mem_cons_of_mem _ (List.mem_append_right _ h)) tyX1 tyX1_ok hown (hts _ (List.mem_of_getElem? (i := 8) rfl)) (hts _ (List.mem_of_getElem? (i := 9) rfl)) (hts _ (List.mem_of_getElem? (i := 10) rfl)) hK hP hD hS hA rfl (fun j hj => by rcases (show j = 0 ∨ j = 1 ∨ j = 2 ∨ j = 3 ∨ j = 4 ∨ j = 5 ∨ j = 6 ∨ j = 7 ∨ j = 8 ∨ j = 9 ∨ j = 10 ∨ j = 11 by omega) with rfl | rfl | rfl | rfl | rfl | rfl | rfl | rfl | rfl | rfl | rfl | rfl <;> rfl) (Nat.le_of_ble_eq_true rfl) (Nat.le_of_ble_eq_true rfl) dX3_init_16 (fun o16 H hP hD hS => ?_)
  have hP : va_P (dC, dI) vwCl [(h0, .inr (3, [.ref o5, .null, .null, .null, .null, .null, .int 0, .int 0])), (o5, .inr (6, [.ref c9q1, .int 0])), (c9q1, .inl (cI, 120, .inl (fun _ => 0))), (o16, .inr (1, [.null, .null, .null, .null, .null, .null, .int 0, .int 0, .int 0, .int 0, .int 0, .int 0]))] H := hP
  have hD : va_D A [(h0, .inr (3, [.ref o5, .null, .null, .null, .null, .null, .int 0, .int 0])), (o5, .inr (6, [.ref c9q1, .int 0])), (c9q1, .inl (cI, 120, .inl (fun _ => 0))), (o16, .inr (1, [.null, .null, .null, .null, .null, .null, .int 0, .int 0, .int 0, .int 0, .int 0, .int 0]))] := hD
  refine W.widen (k := 3) (n := 134) (Nat.le_of_ble_eq_true rfl) (Nat.le_of_ble_eq_true rfl) ?_
  refine lv_dup hx hb dX3_init_19 rfl ?_
  have hPc := hP.sub (ws' := [(o16, .inr (1, [.null, .null, .null, .null, .null, .null, .int 0, .int 0, .int 0, .int 0, .int 0, .int 0]))]) [3] rfl
  have hDc := hD.sub (ws' := [(o16, .inr (1, [.null, .null, .null, .null, .null, .null, .int 0, .int 0, .int 0, .int 0, .int 0, .int 0]))]) [3] (by decide) rfl
  have hKc := hK.sub (tys' := [(cI, .int)]) [0] rfl
  have hFc := va_free (wc := [(o16, .inr (1, [.null, .null, .null, .null, .null, .null, .int 0, .int 0, .int 0, .int 0, .int 0, .int 0]))]) hD hS hA [3] rfl
  refine va_callv (va_runI (As := []) (rest := [.ref o16, .ref h0]) ⟨hx, hb, hml, hown, hts⟩ (cin_X1 l dC dI cI o16 H.size) (cwI 0 hts gX3_init_X1_init rfl rfl rfl (hts _ (List.mem_of_getElem? (i := 10) rfl)) (hts _ (List.mem_of_getElem? (i := 24) rfl)) (hts _ (List.mem_of_getElem? (i := 25) rfl)) rfl (by decide +kernel) ⟨Nat.le_of_ble_eq_true rfl, Nat.le_of_ble_eq_true rfl⟩) ⟨fun a U g mk q => by obtain ⟨q0, q1, qP, qK, qD⟩ := q; exact ⟨q0, q1, qP, va_K.moved (u := U) (U := U.calling g mk a) (Vm.Alike.refl U.vm) qK, qD⟩, fun U hU hW => ⟨rfl, by rw [hU], by rw [hU]; exact hPc, va_K.moved hW.alike hKc, hDc.weaken (fun _ _ _ _ => trivial)⟩⟩ rfl rfl hl.1 rfl (lv_room (Nat.le_of_ble_eq_true rfl)) dX3_init_20 ⟨Nat.le_of_ble_eq_true rfl, Nat.le_of_ble_eq_true rfl⟩) hS (fun q _ h => hFc q h) hFc (fun u t H1 locs ht hvm hw hB hz1 hk1 hS => ?_)
  obtain ⟨c20f1, rfl⟩ : ∃ z, z = u := ⟨_, rfl⟩
  have w20 : ∀ j, j < 10 → c20f1 j = -1 := hw
  obtain ⟨c20q1, c20q2, c20q3, c20q4, c20q5, c20q6, hP1, hK1, hD1⟩ := hB
  rw [ht] at hP1
  obtain ⟨hP, hD⟩ := va_join (wr := [(h0, .inr (3, [.ref o5, .null, .null, .null, .null, .null, .int 0, .int 0])), (o5, .inr (6, [.ref c9q1, .int 0])), (c9q1, .inl (cI, 120, .inl (fun _ => 0)))]) (w1 := [(o16, .inr (1, [.ref c20q1, .ref c20q2, .ref c20q3, .ref c20q4, .ref c20q5, .ref c20q6, .int 0, .int 65535, .int 0, .int 0, .int 0, .int 1])), (c20q1, .inl (cI, 8, .inl (fun _ => 0))), (c20q2, .inl (cI, 8, .inl (fun _ => 0))), (c20q3, .inl (cI, 8, .inl (fun _ => 0))), (c20q4, .inl (cI, 8, .inl (fun _ => 0))), (c20q5, .inl (cI, 8, .inl (fun _ => 0))), (c20q6, .inl (cI, 10, .inl (c20f1)))]) hP hD [3] [0, 1, 2] rfl rfl (by decide) (by decide) hk1 hFc hP1 hD1
  clear hP1 hD1 hK1 hPc hDc hFc
  generalize H1 = H at hP hS ⊢
  have hP : va_P (dC, dI) vwCl [(h0, .inr (3, [.ref o5, .null, .null, .null, .null, .null, .int 0, .int 0])), (o5, .inr (6, [.ref c9q1, .int 0])), (c9q1, .inl (cI, 120, .inl (fun _ => 0))), (o16, .inr (1, [.ref c20q1, .ref c20q2, .ref c20q3, .ref c20q4, .ref c20q5, .ref c20q6, .int 0, .int 65535, .int 0, .int 0, .int 0, .int 1])), (c20q1, .inl (cI, 8, .inl (fun _ => 0))), (c20q2, .inl (cI, 8, .inl (fun _ => 0))), (c20q3, .inl (cI, 8, .inl (fun _ => 0))), (c20q4, .inl (cI, 8, .inl (fun _ => 0))), (c20q5, .inl (cI, 8, .inl (fun _ => 0))), (c20q6, .inl (cI, 10, .inl (c20f1)))] H := hP
  have hD : va_D A [(h0, .inr (3, [.ref o5, .null, .null, .null, .null, .null, .int 0, .int 0])), (o5, .inr (6, [.ref c9q1, .int 0])), (c9q1, .inl (cI, 120, .inl (fun _ => 0))), (o16, .inr (1, [.ref c20q1, .ref c20q2, .ref c20q3, .ref c20q4, .ref c20q5, .ref c20q6, .int 0, .int 65535, .int 0, .int 0, .int 0, .int 1])), (c20q1, .inl (cI, 8, .inl (fun _ => 0))), (c20q2, .inl (cI, 8, .inl (fun _ => 0))), (c20q3, .inl (cI, 8, .inl (fun _ => 0))), (c20q4, .inl (cI, 8, .inl (fun _ => 0))), (c20q5, .inl (cI, 8, .inl (fun _ => 0))), (c20q6, .inl (cI, 10, .inl (c20f1)))] := hD
  refine W.widen (k := 9) (n := 184) (Nat.le_of_ble_eq_true rfl) (Nat.le_of_ble_eq_true rfl) ?_
  refine va_putF (D := (dC, dI)) (ci := 3) (v := .ref o16) (ty := .object "SharedShadow$Land") (C := RX3) (T := TX3) (N := 8) hx hb hts (fun w h => List.mem_cons_of_mem _ (List.mem_append_left _ (List.mem_append_right _ h))) tyX3 tyX3_ok nmX3 hown hK hP hD hS 0 rfl rfl 1 (by decide) (hts _ (List.mem_of_getElem? (i := 11) rfl)) (fun _ h9 => h9) rfl hin rfl (by decide +kernel) rfl rfl (Nat.le_of_ble_eq_true rfl) dX3_init_23 (fun H locs hP hD hS => ?_)
  have hP : va_P (dC, dI) vwCl [(h0, .inr (3, [.ref o5, .ref o16, .null, .null, .null, .null, .int 0, .int 0])), (o5, .inr (6, [.ref c9q1, .int 0])), (c9q1, .inl (cI, 120, .inl (fun _ => 0))), (o16, .inr (1, [.ref c20q1, .ref c20q2, .ref c20q3, .ref c20q4, .ref c20q5, .ref c20q6, .int 0, .int 65535, .int 0, .int 0, .int 0, .int 1])), (c20q1, .inl (cI, 8, .inl (fun _ => 0))), (c20q2, .inl (cI, 8, .inl (fun _ => 0))), (c20q3, .inl (cI, 8, .inl (fun _ => 0))), (c20q4, .inl (cI, 8, .inl (fun _ => 0))), (c20q5, .inl (cI, 8, .inl (fun _ => 0))), (c20q6, .inl (cI, 10, .inl (c20f1)))] H := hP
  have hD : va_D A [(h0, .inr (3, [.ref o5, .ref o16, .null, .null, .null, .null, .int 0, .int 0])), (o5, .inr (6, [.ref c9q1, .int 0])), (c9q1, .inl (cI, 120, .inl (fun _ => 0))), (o16, .inr (1, [.ref c20q1, .ref c20q2, .ref c20q3, .ref c20q4, .ref c20q5, .ref c20q6, .int 0, .int 65535, .int 0, .int 0, .int 0, .int 1])), (c20q1, .inl (cI, 8, .inl (fun _ => 0))), (c20q2, .inl (cI, 8, .inl (fun _ => 0))), (c20q3, .inl (cI, 8, .inl (fun _ => 0))), (c20q4, .inl (cI, 8, .inl (fun _ => 0))), (c20q5, .inl (cI, 8, .inl (fun _ => 0))), (c20q6, .inl (cI, 10, .inl (c20f1)))] := hD
  refine lv_aload_n hx hb dX3_init_26 rfl (lv_at hl 0 rfl) ?_
  refine lv_bipush (v := 121) hx hb dX3_init_27 (by decide) ?_
  refine va_newa (atype := .int) (a0 := (121, .inl (fun _ => 0))) (N' := 121) hx hb (hts _ (List.mem_of_getElem? (i := 12) rfl)) rfl hK hP hD hS hA (fun _ => rfl) (by decide) (by decide) (Nat.le_of_ble_eq_true rfl) (Nat.le_of_ble_eq_true rfl) (Nat.le_of_ble_eq_true rfl) dX3_init_29 (fun q29 cA H hK1 hP hD hS => ?_)
  have eA1 : cA = cI := kk_one hK1
  rw [eA1] at hP hD
  have hP : va_P (dC, dI) vwCl [(h0, .inr (3, [.ref o5, .ref o16, .null, .null, .null, .null, .int 0, .int 0])), (o5, .inr (6, [.ref c9q1, .int 0])), (c9q1, .inl (cI, 120, .inl (fun _ => 0))), (o16, .inr (1, [.ref c20q1, .ref c20q2, .ref c20q3, .ref c20q4, .ref c20q5, .ref c20q6, .int 0, .int 65535, .int 0, .int 0, .int 0, .int 1])), (c20q1, .inl (cI, 8, .inl (fun _ => 0))), (c20q2, .inl (cI, 8, .inl (fun _ => 0))), (c20q3, .inl (cI, 8, .inl (fun _ => 0))), (c20q4, .inl (cI, 8, .inl (fun _ => 0))), (c20q5, .inl (cI, 8, .inl (fun _ => 0))), (c20q6, .inl (cI, 10, .inl (c20f1))), (q29, .inl (cI, 121, .inl (fun _ => 0)))] H := hP
  have hD : va_D A [(h0, .inr (3, [.ref o5, .ref o16, .null, .null, .null, .null, .int 0, .int 0])), (o5, .inr (6, [.ref c9q1, .int 0])), (c9q1, .inl (cI, 120, .inl (fun _ => 0))), (o16, .inr (1, [.ref c20q1, .ref c20q2, .ref c20q3, .ref c20q4, .ref c20q5, .ref c20q6, .int 0, .int 65535, .int 0, .int 0, .int 0, .int 1])), (c20q1, .inl (cI, 8, .inl (fun _ => 0))), (c20q2, .inl (cI, 8, .inl (fun _ => 0))), (c20q3, .inl (cI, 8, .inl (fun _ => 0))), (c20q4, .inl (cI, 8, .inl (fun _ => 0))), (c20q5, .inl (cI, 8, .inl (fun _ => 0))), (c20q6, .inl (cI, 10, .inl (c20f1))), (q29, .inl (cI, 121, .inl (fun _ => 0)))] := hD
  refine W.widen (k := 10) (n := 305) (Nat.le_of_ble_eq_true rfl) (Nat.le_of_ble_eq_true rfl) ?_
  refine va_putF (D := (dC, dI)) (ci := 3) (v := .ref q29) (ty := .array .int) (C := RX3) (T := TX3) (N := 8) hx hb hts (fun w h => List.mem_cons_of_mem _ (List.mem_append_left _ (List.mem_append_right _ h))) tyX3 tyX3_ok nmX3 hown hK hP hD hS 0 rfl rfl 2 (by decide) (hts _ (List.mem_of_getElem? (i := 13) rfl)) (fun _ h9 => h9) rfl hin rfl (by decide +kernel) rfl rfl (Nat.le_of_ble_eq_true rfl) dX3_init_31 (fun H locs hP hD hS => ?_)
  have hP : va_P (dC, dI) vwCl [(h0, .inr (3, [.ref o5, .ref o16, .ref q29, .null, .null, .null, .int 0, .int 0])), (o5, .inr (6, [.ref c9q1, .int 0])), (c9q1, .inl (cI, 120, .inl (fun _ => 0))), (o16, .inr (1, [.ref c20q1, .ref c20q2, .ref c20q3, .ref c20q4, .ref c20q5, .ref c20q6, .int 0, .int 65535, .int 0, .int 0, .int 0, .int 1])), (c20q1, .inl (cI, 8, .inl (fun _ => 0))), (c20q2, .inl (cI, 8, .inl (fun _ => 0))), (c20q3, .inl (cI, 8, .inl (fun _ => 0))), (c20q4, .inl (cI, 8, .inl (fun _ => 0))), (c20q5, .inl (cI, 8, .inl (fun _ => 0))), (c20q6, .inl (cI, 10, .inl (c20f1))), (q29, .inl (cI, 121, .inl (fun _ => 0)))] H := hP
  have hD : va_D A [(h0, .inr (3, [.ref o5, .ref o16, .ref q29, .null, .null, .null, .int 0, .int 0])), (o5, .inr (6, [.ref c9q1, .int 0])), (c9q1, .inl (cI, 120, .inl (fun _ => 0))), (o16, .inr (1, [.ref c20q1, .ref c20q2, .ref c20q3, .ref c20q4, .ref c20q5, .ref c20q6, .int 0, .int 65535, .int 0, .int 0, .int 0, .int 1])), (c20q1, .inl (cI, 8, .inl (fun _ => 0))), (c20q2, .inl (cI, 8, .inl (fun _ => 0))), (c20q3, .inl (cI, 8, .inl (fun _ => 0))), (c20q4, .inl (cI, 8, .inl (fun _ => 0))), (c20q5, .inl (cI, 8, .inl (fun _ => 0))), (c20q6, .inl (cI, 10, .inl (c20f1))), (q29, .inl (cI, 121, .inl (fun _ => 0)))] := hD
  refine lv_aload_n hx hb dX3_init_34 rfl (lv_at hl 0 rfl) ?_
  refine lv_bipush (v := 121) hx hb dX3_init_35 (by decide) ?_
  refine va_newa (atype := .int) (a0 := (121, .inl (fun _ => 0))) (N' := 121) hx hb (hts _ (List.mem_of_getElem? (i := 12) rfl)) rfl hK hP hD hS hA (fun _ => rfl) (by decide) (by decide) (Nat.le_of_ble_eq_true rfl) (Nat.le_of_ble_eq_true rfl) (Nat.le_of_ble_eq_true rfl) dX3_init_37 (fun q37 cA H hK1 hP hD hS => ?_)
  have eA1 : cA = cI := kk_one hK1
  rw [eA1] at hP hD
  have hP : va_P (dC, dI) vwCl [(h0, .inr (3, [.ref o5, .ref o16, .ref q29, .null, .null, .null, .int 0, .int 0])), (o5, .inr (6, [.ref c9q1, .int 0])), (c9q1, .inl (cI, 120, .inl (fun _ => 0))), (o16, .inr (1, [.ref c20q1, .ref c20q2, .ref c20q3, .ref c20q4, .ref c20q5, .ref c20q6, .int 0, .int 65535, .int 0, .int 0, .int 0, .int 1])), (c20q1, .inl (cI, 8, .inl (fun _ => 0))), (c20q2, .inl (cI, 8, .inl (fun _ => 0))), (c20q3, .inl (cI, 8, .inl (fun _ => 0))), (c20q4, .inl (cI, 8, .inl (fun _ => 0))), (c20q5, .inl (cI, 8, .inl (fun _ => 0))), (c20q6, .inl (cI, 10, .inl (c20f1))), (q29, .inl (cI, 121, .inl (fun _ => 0))), (q37, .inl (cI, 121, .inl (fun _ => 0)))] H := hP
  have hD : va_D A [(h0, .inr (3, [.ref o5, .ref o16, .ref q29, .null, .null, .null, .int 0, .int 0])), (o5, .inr (6, [.ref c9q1, .int 0])), (c9q1, .inl (cI, 120, .inl (fun _ => 0))), (o16, .inr (1, [.ref c20q1, .ref c20q2, .ref c20q3, .ref c20q4, .ref c20q5, .ref c20q6, .int 0, .int 65535, .int 0, .int 0, .int 0, .int 1])), (c20q1, .inl (cI, 8, .inl (fun _ => 0))), (c20q2, .inl (cI, 8, .inl (fun _ => 0))), (c20q3, .inl (cI, 8, .inl (fun _ => 0))), (c20q4, .inl (cI, 8, .inl (fun _ => 0))), (c20q5, .inl (cI, 8, .inl (fun _ => 0))), (c20q6, .inl (cI, 10, .inl (c20f1))), (q29, .inl (cI, 121, .inl (fun _ => 0))), (q37, .inl (cI, 121, .inl (fun _ => 0)))] := hD
  refine W.widen (k := 11) (n := 426) (Nat.le_of_ble_eq_true rfl) (Nat.le_of_ble_eq_true rfl) ?_
  refine va_putF (D := (dC, dI)) (ci := 3) (v := .ref q37) (ty := .array .int) (C := RX3) (T := TX3) (N := 8) hx hb hts (fun w h => List.mem_cons_of_mem _ (List.mem_append_left _ (List.mem_append_right _ h))) tyX3 tyX3_ok nmX3 hown hK hP hD hS 0 rfl rfl 3 (by decide) (hts _ (List.mem_of_getElem? (i := 14) rfl)) (fun _ h9 => h9) rfl hin rfl (by decide +kernel) rfl rfl (Nat.le_of_ble_eq_true rfl) dX3_init_39 (fun H locs hP hD hS => ?_)
  have hP : va_P (dC, dI) vwCl [(h0, .inr (3, [.ref o5, .ref o16, .ref q29, .ref q37, .null, .null, .int 0, .int 0])), (o5, .inr (6, [.ref c9q1, .int 0])), (c9q1, .inl (cI, 120, .inl (fun _ => 0))), (o16, .inr (1, [.ref c20q1, .ref c20q2, .ref c20q3, .ref c20q4, .ref c20q5, .ref c20q6, .int 0, .int 65535, .int 0, .int 0, .int 0, .int 1])), (c20q1, .inl (cI, 8, .inl (fun _ => 0))), (c20q2, .inl (cI, 8, .inl (fun _ => 0))), (c20q3, .inl (cI, 8, .inl (fun _ => 0))), (c20q4, .inl (cI, 8, .inl (fun _ => 0))), (c20q5, .inl (cI, 8, .inl (fun _ => 0))), (c20q6, .inl (cI, 10, .inl (c20f1))), (q29, .inl (cI, 121, .inl (fun _ => 0))), (q37, .inl (cI, 121, .inl (fun _ => 0)))] H := hP
  have hD : va_D A [(h0, .inr (3, [.ref o5, .ref o16, .ref q29, .ref q37, .null, .null, .int 0, .int 0])), (o5, .inr (6, [.ref c9q1, .int 0])), (c9q1, .inl (cI, 120, .inl (fun _ => 0))), (o16, .inr (1, [.ref c20q1, .ref c20q2, .ref c20q3, .ref c20q4, .ref c20q5, .ref c20q6, .int 0, .int 65535, .int 0, .int 0, .int 0, .int 1])), (c20q1, .inl (cI, 8, .inl (fun _ => 0))), (c20q2, .inl (cI, 8, .inl (fun _ => 0))), (c20q3, .inl (cI, 8, .inl (fun _ => 0))), (c20q4, .inl (cI, 8, .inl (fun _ => 0))), (c20q5, .inl (cI, 8, .inl (fun _ => 0))), (c20q6, .inl (cI, 10, .inl (c20f1))), (q29, .inl (cI, 121, .inl (fun _ => 0))), (q37, .inl (cI, 121, .inl (fun _ => 0)))] := hD
  refine lv_aload_n hx hb dX3_init_42 rfl (lv_at hl 0 rfl) ?_
  refine lv_bipush (v := 121) hx hb dX3_init_43 (by decide) ?_
  refine va_newa (atype := .int) (a0 := (121, .inl (fun _ => 0))) (N' := 121) hx hb (hts _ (List.mem_of_getElem? (i := 12) rfl)) rfl hK hP hD hS hA (fun _ => rfl) (by decide) (by decide) (Nat.le_of_ble_eq_true rfl) (Nat.le_of_ble_eq_true rfl) (Nat.le_of_ble_eq_true rfl) dX3_init_45 (fun q45 cA H hK1 hP hD hS => ?_)
  have eA1 : cA = cI := kk_one hK1
  rw [eA1] at hP hD
  have hP : va_P (dC, dI) vwCl [(h0, .inr (3, [.ref o5, .ref o16, .ref q29, .ref q37, .null, .null, .int 0, .int 0])), (o5, .inr (6, [.ref c9q1, .int 0])), (c9q1, .inl (cI, 120, .inl (fun _ => 0))), (o16, .inr (1, [.ref c20q1, .ref c20q2, .ref c20q3, .ref c20q4, .ref c20q5, .ref c20q6, .int 0, .int 65535, .int 0, .int 0, .int 0, .int 1])), (c20q1, .inl (cI, 8, .inl (fun _ => 0))), (c20q2, .inl (cI, 8, .inl (fun _ => 0))), (c20q3, .inl (cI, 8, .inl (fun _ => 0))), (c20q4, .inl (cI, 8, .inl (fun _ => 0))), (c20q5, .inl (cI, 8, .inl (fun _ => 0))), (c20q6, .inl (cI, 10, .inl (c20f1))), (q29, .inl (cI, 121, .inl (fun _ => 0))), (q37, .inl (cI, 121, .inl (fun _ => 0))), (q45, .inl (cI, 121, .inl (fun _ => 0)))] H := hP
  have hD : va_D A [(h0, .inr (3, [.ref o5, .ref o16, .ref q29, .ref q37, .null, .null, .int 0, .int 0])), (o5, .inr (6, [.ref c9q1, .int 0])), (c9q1, .inl (cI, 120, .inl (fun _ => 0))), (o16, .inr (1, [.ref c20q1, .ref c20q2, .ref c20q3, .ref c20q4, .ref c20q5, .ref c20q6, .int 0, .int 65535, .int 0, .int 0, .int 0, .int 1])), (c20q1, .inl (cI, 8, .inl (fun _ => 0))), (c20q2, .inl (cI, 8, .inl (fun _ => 0))), (c20q3, .inl (cI, 8, .inl (fun _ => 0))), (c20q4, .inl (cI, 8, .inl (fun _ => 0))), (c20q5, .inl (cI, 8, .inl (fun _ => 0))), (c20q6, .inl (cI, 10, .inl (c20f1))), (q29, .inl (cI, 121, .inl (fun _ => 0))), (q37, .inl (cI, 121, .inl (fun _ => 0))), (q45, .inl (cI, 121, .inl (fun _ => 0)))] := hD
  refine W.widen (k := 12) (n := 547) (Nat.le_of_ble_eq_true rfl) (Nat.le_of_ble_eq_true rfl) ?_
  refine va_putF (D := (dC, dI)) (ci := 3) (v := .ref q45) (ty := .array .int) (C := RX3) (T := TX3) (N := 8) hx hb hts (fun w h => List.mem_cons_of_mem _ (List.mem_append_left _ (List.mem_append_right _ h))) tyX3 tyX3_ok nmX3 hown hK hP hD hS 0 rfl rfl 4 (by decide) (hts _ (List.mem_of_getElem? (i := 15) rfl)) (fun _ h9 => h9) rfl hin rfl (by decide +kernel) rfl rfl (Nat.le_of_ble_eq_true rfl) dX3_init_47 (fun H locs hP hD hS => ?_)
  have hP : va_P (dC, dI) vwCl [(h0, .inr (3, [.ref o5, .ref o16, .ref q29, .ref q37, .ref q45, .null, .int 0, .int 0])), (o5, .inr (6, [.ref c9q1, .int 0])), (c9q1, .inl (cI, 120, .inl (fun _ => 0))), (o16, .inr (1, [.ref c20q1, .ref c20q2, .ref c20q3, .ref c20q4, .ref c20q5, .ref c20q6, .int 0, .int 65535, .int 0, .int 0, .int 0, .int 1])), (c20q1, .inl (cI, 8, .inl (fun _ => 0))), (c20q2, .inl (cI, 8, .inl (fun _ => 0))), (c20q3, .inl (cI, 8, .inl (fun _ => 0))), (c20q4, .inl (cI, 8, .inl (fun _ => 0))), (c20q5, .inl (cI, 8, .inl (fun _ => 0))), (c20q6, .inl (cI, 10, .inl (c20f1))), (q29, .inl (cI, 121, .inl (fun _ => 0))), (q37, .inl (cI, 121, .inl (fun _ => 0))), (q45, .inl (cI, 121, .inl (fun _ => 0)))] H := hP
  have hD : va_D A [(h0, .inr (3, [.ref o5, .ref o16, .ref q29, .ref q37, .ref q45, .null, .int 0, .int 0])), (o5, .inr (6, [.ref c9q1, .int 0])), (c9q1, .inl (cI, 120, .inl (fun _ => 0))), (o16, .inr (1, [.ref c20q1, .ref c20q2, .ref c20q3, .ref c20q4, .ref c20q5, .ref c20q6, .int 0, .int 65535, .int 0, .int 0, .int 0, .int 1])), (c20q1, .inl (cI, 8, .inl (fun _ => 0))), (c20q2, .inl (cI, 8, .inl (fun _ => 0))), (c20q3, .inl (cI, 8, .inl (fun _ => 0))), (c20q4, .inl (cI, 8, .inl (fun _ => 0))), (c20q5, .inl (cI, 8, .inl (fun _ => 0))), (c20q6, .inl (cI, 10, .inl (c20f1))), (q29, .inl (cI, 121, .inl (fun _ => 0))), (q37, .inl (cI, 121, .inl (fun _ => 0))), (q45, .inl (cI, 121, .inl (fun _ => 0)))] := hD
  refine lv_aload_n hx hb dX3_init_50 rfl (lv_at hl 0 rfl) ?_
  refine lv_bipush (v := 121) hx hb dX3_init_51 (by decide) ?_
  refine va_newa (atype := .int) (a0 := (121, .inl (fun _ => 0))) (N' := 121) hx hb (hts _ (List.mem_of_getElem? (i := 12) rfl)) rfl hK hP hD hS hA (fun _ => rfl) (by decide) (by decide) (Nat.le_of_ble_eq_true rfl) (Nat.le_of_ble_eq_true rfl) (Nat.le_of_ble_eq_true rfl) dX3_init_53 (fun q53 cA H hK1 hP hD hS => ?_)
  have eA1 : cA = cI := kk_one hK1
  rw [eA1] at hP hD
  have hP : va_P (dC, dI) vwCl [(h0, .inr (3, [.ref o5, .ref o16, .ref q29, .ref q37, .ref q45, .null, .int 0, .int 0])), (o5, .inr (6, [.ref c9q1, .int 0])), (c9q1, .inl (cI, 120, .inl (fun _ => 0))), (o16, .inr (1, [.ref c20q1, .ref c20q2, .ref c20q3, .ref c20q4, .ref c20q5, .ref c20q6, .int 0, .int 65535, .int 0, .int 0, .int 0, .int 1])), (c20q1, .inl (cI, 8, .inl (fun _ => 0))), (c20q2, .inl (cI, 8, .inl (fun _ => 0))), (c20q3, .inl (cI, 8, .inl (fun _ => 0))), (c20q4, .inl (cI, 8, .inl (fun _ => 0))), (c20q5, .inl (cI, 8, .inl (fun _ => 0))), (c20q6, .inl (cI, 10, .inl (c20f1))), (q29, .inl (cI, 121, .inl (fun _ => 0))), (q37, .inl (cI, 121, .inl (fun _ => 0))), (q45, .inl (cI, 121, .inl (fun _ => 0))), (q53, .inl (cI, 121, .inl (fun _ => 0)))] H := hP
  have hD : va_D A [(h0, .inr (3, [.ref o5, .ref o16, .ref q29, .ref q37, .ref q45, .null, .int 0, .int 0])), (o5, .inr (6, [.ref c9q1, .int 0])), (c9q1, .inl (cI, 120, .inl (fun _ => 0))), (o16, .inr (1, [.ref c20q1, .ref c20q2, .ref c20q3, .ref c20q4, .ref c20q5, .ref c20q6, .int 0, .int 65535, .int 0, .int 0, .int 0, .int 1])), (c20q1, .inl (cI, 8, .inl (fun _ => 0))), (c20q2, .inl (cI, 8, .inl (fun _ => 0))), (c20q3, .inl (cI, 8, .inl (fun _ => 0))), (c20q4, .inl (cI, 8, .inl (fun _ => 0))), (c20q5, .inl (cI, 8, .inl (fun _ => 0))), (c20q6, .inl (cI, 10, .inl (c20f1))), (q29, .inl (cI, 121, .inl (fun _ => 0))), (q37, .inl (cI, 121, .inl (fun _ => 0))), (q45, .inl (cI, 121, .inl (fun _ => 0))), (q53, .inl (cI, 121, .inl (fun _ => 0)))] := hD
  refine W.widen (k := 13) (n := 668) (Nat.le_of_ble_eq_true rfl) (Nat.le_of_ble_eq_true rfl) ?_
  refine va_putF (D := (dC, dI)) (ci := 3) (v := .ref q53) (ty := .array .int) (C := RX3) (T := TX3) (N := 8) hx hb hts (fun w h => List.mem_cons_of_mem _ (List.mem_append_left _ (List.mem_append_right _ h))) tyX3 tyX3_ok nmX3 hown hK hP hD hS 0 rfl rfl 5 (by decide) (hts _ (List.mem_of_getElem? (i := 16) rfl)) (fun _ h9 => h9) rfl hin rfl (by decide +kernel) rfl rfl (Nat.le_of_ble_eq_true rfl) dX3_init_55 (fun H locs hP hD hS => ?_)
  have hP : va_P (dC, dI) vwCl [(h0, .inr (3, [.ref o5, .ref o16, .ref q29, .ref q37, .ref q45, .ref q53, .int 0, .int 0])), (o5, .inr (6, [.ref c9q1, .int 0])), (c9q1, .inl (cI, 120, .inl (fun _ => 0))), (o16, .inr (1, [.ref c20q1, .ref c20q2, .ref c20q3, .ref c20q4, .ref c20q5, .ref c20q6, .int 0, .int 65535, .int 0, .int 0, .int 0, .int 1])), (c20q1, .inl (cI, 8, .inl (fun _ => 0))), (c20q2, .inl (cI, 8, .inl (fun _ => 0))), (c20q3, .inl (cI, 8, .inl (fun _ => 0))), (c20q4, .inl (cI, 8, .inl (fun _ => 0))), (c20q5, .inl (cI, 8, .inl (fun _ => 0))), (c20q6, .inl (cI, 10, .inl (c20f1))), (q29, .inl (cI, 121, .inl (fun _ => 0))), (q37, .inl (cI, 121, .inl (fun _ => 0))), (q45, .inl (cI, 121, .inl (fun _ => 0))), (q53, .inl (cI, 121, .inl (fun _ => 0)))] H := hP
  have hD : va_D A [(h0, .inr (3, [.ref o5, .ref o16, .ref q29, .ref q37, .ref q45, .ref q53, .int 0, .int 0])), (o5, .inr (6, [.ref c9q1, .int 0])), (c9q1, .inl (cI, 120, .inl (fun _ => 0))), (o16, .inr (1, [.ref c20q1, .ref c20q2, .ref c20q3, .ref c20q4, .ref c20q5, .ref c20q6, .int 0, .int 65535, .int 0, .int 0, .int 0, .int 1])), (c20q1, .inl (cI, 8, .inl (fun _ => 0))), (c20q2, .inl (cI, 8, .inl (fun _ => 0))), (c20q3, .inl (cI, 8, .inl (fun _ => 0))), (c20q4, .inl (cI, 8, .inl (fun _ => 0))), (c20q5, .inl (cI, 8, .inl (fun _ => 0))), (c20q6, .inl (cI, 10, .inl (c20f1))), (q29, .inl (cI, 121, .inl (fun _ => 0))), (q37, .inl (cI, 121, .inl (fun _ => 0))), (q45, .inl (cI, 121, .inl (fun _ => 0))), (q53, .inl (cI, 121, .inl (fun _ => 0)))] := hD
  refine lv_aload_n hx hb dX3_init_58 rfl (lv_at hl 0 rfl) ?_
  refine lv_iconst (v := 0) hx hb dX3_init_59 (by decide) ?_
  refine va_put (D := (dC, dI)) (ci := 3) (v := .int 0) (ty := .int) (C := RX3) (T := TX3) (N := 8) hx hb hts (fun w h => List.mem_cons_of_mem _ (List.mem_append_left _ (List.mem_append_right _ h))) tyX3 tyX3_ok nmX3 hown hK hP hD hS 0 rfl rfl 6 (by decide) (hts _ (List.mem_of_getElem? (i := 17) rfl)) (fun _ h9 => h9) rfl (by decide +kernel) rfl rfl (Nat.le_of_ble_eq_true rfl) dX3_init_60 (fun H locs hP hD hS => ?_)
  have hP : va_P (dC, dI) vwCl [(h0, .inr (3, [.ref o5, .ref o16, .ref q29, .ref q37, .ref q45, .ref q53, .int 0, .int 0])), (o5, .inr (6, [.ref c9q1, .int 0])), (c9q1, .inl (cI, 120, .inl (fun _ => 0))), (o16, .inr (1, [.ref c20q1, .ref c20q2, .ref c20q3, .ref c20q4, .ref c20q5, .ref c20q6, .int 0, .int 65535, .int 0, .int 0, .int 0, .int 1])), (c20q1, .inl (cI, 8, .inl (fun _ => 0))), (c20q2, .inl (cI, 8, .inl (fun _ => 0))), (c20q3, .inl (cI, 8, .inl (fun _ => 0))), (c20q4, .inl (cI, 8, .inl (fun _ => 0))), (c20q5, .inl (cI, 8, .inl (fun _ => 0))), (c20q6, .inl (cI, 10, .inl (c20f1))), (q29, .inl (cI, 121, .inl (fun _ => 0))), (q37, .inl (cI, 121, .inl (fun _ => 0))), (q45, .inl (cI, 121, .inl (fun _ => 0))), (q53, .inl (cI, 121, .inl (fun _ => 0)))] H := hP
  have hD : va_D A [(h0, .inr (3, [.ref o5, .ref o16, .ref q29, .ref q37, .ref q45, .ref q53, .int 0, .int 0])), (o5, .inr (6, [.ref c9q1, .int 0])), (c9q1, .inl (cI, 120, .inl (fun _ => 0))), (o16, .inr (1, [.ref c20q1, .ref c20q2, .ref c20q3, .ref c20q4, .ref c20q5, .ref c20q6, .int 0, .int 65535, .int 0, .int 0, .int 0, .int 1])), (c20q1, .inl (cI, 8, .inl (fun _ => 0))), (c20q2, .inl (cI, 8, .inl (fun _ => 0))), (c20q3, .inl (cI, 8, .inl (fun _ => 0))), (c20q4, .inl (cI, 8, .inl (fun _ => 0))), (c20q5, .inl (cI, 8, .inl (fun _ => 0))), (c20q6, .inl (cI, 10, .inl (c20f1))), (q29, .inl (cI, 121, .inl (fun _ => 0))), (q37, .inl (cI, 121, .inl (fun _ => 0))), (q45, .inl (cI, 121, .inl (fun _ => 0))), (q53, .inl (cI, 121, .inl (fun _ => 0)))] := hD
  refine lv_aload_n hx hb dX3_init_63 rfl (lv_at hl 0 rfl) ?_
  refine lv_iconst (v := 0) hx hb dX3_init_64 (by decide) ?_
  refine va_put (D := (dC, dI)) (ci := 3) (v := .int 0) (ty := .int) (C := RX3) (T := TX3) (N := 8) hx hb hts (fun w h => List.mem_cons_of_mem _ (List.mem_append_left _ (List.mem_append_right _ h))) tyX3 tyX3_ok nmX3 hown hK hP hD hS 0 rfl rfl 7 (by decide) (hts _ (List.mem_of_getElem? (i := 18) rfl)) (fun _ h9 => h9) rfl (by decide +kernel) rfl rfl (Nat.le_of_ble_eq_true rfl) dX3_init_65 (fun H locs hP hD hS => ?_)
  have hP : va_P (dC, dI) vwCl [(h0, .inr (3, [.ref o5, .ref o16, .ref q29, .ref q37, .ref q45, .ref q53, .int 0, .int 0])), (o5, .inr (6, [.ref c9q1, .int 0])), (c9q1, .inl (cI, 120, .inl (fun _ => 0))), (o16, .inr (1, [.ref c20q1, .ref c20q2, .ref c20q3, .ref c20q4, .ref c20q5, .ref c20q6, .int 0, .int 65535, .int 0, .int 0, .int 0, .int 1])), (c20q1, .inl (cI, 8, .inl (fun _ => 0))), (c20q2, .inl (cI, 8, .inl (fun _ => 0))), (c20q3, .inl (cI, 8, .inl (fun _ => 0))), (c20q4, .inl (cI, 8, .inl (fun _ => 0))), (c20q5, .inl (cI, 8, .inl (fun _ => 0))), (c20q6, .inl (cI, 10, .inl (c20f1))), (q29, .inl (cI, 121, .inl (fun _ => 0))), (q37, .inl (cI, 121, .inl (fun _ => 0))), (q45, .inl (cI, 121, .inl (fun _ => 0))), (q53, .inl (cI, 121, .inl (fun _ => 0)))] H := hP
  have hD : va_D A [(h0, .inr (3, [.ref o5, .ref o16, .ref q29, .ref q37, .ref q45, .ref q53, .int 0, .int 0])), (o5, .inr (6, [.ref c9q1, .int 0])), (c9q1, .inl (cI, 120, .inl (fun _ => 0))), (o16, .inr (1, [.ref c20q1, .ref c20q2, .ref c20q3, .ref c20q4, .ref c20q5, .ref c20q6, .int 0, .int 65535, .int 0, .int 0, .int 0, .int 1])), (c20q1, .inl (cI, 8, .inl (fun _ => 0))), (c20q2, .inl (cI, 8, .inl (fun _ => 0))), (c20q3, .inl (cI, 8, .inl (fun _ => 0))), (c20q4, .inl (cI, 8, .inl (fun _ => 0))), (c20q5, .inl (cI, 8, .inl (fun _ => 0))), (c20q6, .inl (cI, 10, .inl (c20f1))), (q29, .inl (cI, 121, .inl (fun _ => 0))), (q37, .inl (cI, 121, .inl (fun _ => 0))), (q45, .inl (cI, 121, .inl (fun _ => 0))), (q53, .inl (cI, 121, .inl (fun _ => 0)))] := hD
  have hP9 := hP.sub (ws' := [(h0, .inr (3, [.ref o5, .ref o16, .ref q29, .ref q37, .ref q45, .ref q53, .int 0, .int 0])), (o5, .inr (6, [.ref c9q1, .int 0])), (c9q1, .inl (cI, 120, .inl (fun _ => 0))), (o16, .inr (1, [.ref c20q1, .ref c20q2, .ref c20q3, .ref c20q4, .ref c20q5, .ref c20q6, .int 0, .int 65535, .int 0, .int 0, .int 0, .int 1])), (c20q1, .inl (cI, 8, .inl (fun _ => 0))), (c20q2, .inl (cI, 8, .inl (fun _ => 0))), (c20q3, .inl (cI, 8, .inl (fun _ => 0))), (c20q4, .inl (cI, 8, .inl (fun _ => 0))), (c20q5, .inl (cI, 8, .inl (fun _ => 0))), (c20q6, .inl (cI, 10, .inl (c20f1))), (q29, .inl (cI, 121, .inl (fun _ => 0))), (q37, .inl (cI, 121, .inl (fun _ => 0))), (q45, .inl (cI, 121, .inl (fun _ => 0))), (q53, .inl (cI, 121, .inl (fun _ => 0)))]) [0, 1, 2, 3, 4, 5, 6, 7, 8, 9, 10, 11, 12, 13] rfl
  have hD9 := hD.sub (ws' := [(h0, .inr (3, [.ref o5, .ref o16, .ref q29, .ref q37, .ref q45, .ref q53, .int 0, .int 0])), (o5, .inr (6, [.ref c9q1, .int 0])), (c9q1, .inl (cI, 120, .inl (fun _ => 0))), (o16, .inr (1, [.ref c20q1, .ref c20q2, .ref c20q3, .ref c20q4, .ref c20q5, .ref c20q6, .int 0, .int 65535, .int 0, .int 0, .int 0, .int 1])), (c20q1, .inl (cI, 8, .inl (fun _ => 0))), (c20q2, .inl (cI, 8, .inl (fun _ => 0))), (c20q3, .inl (cI, 8, .inl (fun _ => 0))), (c20q4, .inl (cI, 8, .inl (fun _ => 0))), (c20q5, .inl (cI, 8, .inl (fun _ => 0))), (c20q6, .inl (cI, 10, .inl (c20f1))), (q29, .inl (cI, 121, .inl (fun _ => 0))), (q37, .inl (cI, 121, .inl (fun _ => 0))), (q45, .inl (cI, 121, .inl (fun _ => 0))), (q53, .inl (cI, 121, .inl (fun _ => 0)))]) [0, 1, 2, 3, 4, 5, 6, 7, 8, 9, 10, 11, 12, 13] (by decide) rfl
  refine W.widen (k := 13) (n := 668) (Nat.le_of_ble_eq_true rfl) (Nat.le_of_ble_eq_true rfl) ?_
  exact W.vret hx hb hr (fun t ht hW => ⟨⟨c20f1, rfl, w20, o5, c9q1, o16, c20q1, c20q2, c20q3, c20q4, c20q5, c20q6, q29, q37, q45, q53, by rw [ht]; exact hP9, va_K.moved hW.alike hK, hD9⟩, hS.F ht⟩) hS.2.2 dX3_init_68

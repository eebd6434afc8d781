theorem st_K {p : Program} {s : State} {m : MethodId} {meth : Method} {c : Code} {b L : Nat} {xs : Nat → Int32} (C0 : lw_At p s m meth c b L xs) : ∃ (dC : Nat → ClassId) (dI : Nat → Nat → Nat) (cI : ClassId), va_K (dC, dI) vwCl [(cI, .int)] s := by
  obtain ⟨_, _, _, _, _, hts0, _⟩ := C0
  have hts : ∀ w ∈ wsL_law, w.before #[Value.ref b] s = true := fun w h => hts0 w (wsL_law_in w h)
  obtain ⟨c0, i0, k0⟩ := u_known hts0 inX0 (hts _ (List.mem_of_getElem? (i := 22) rfl) : (Cond.instantiable RX0 6).before #[Value.ref b] s = true)
  obtain ⟨c1, i1, k1⟩ := u_known hts0 inX1 (hts _ (List.mem_of_getElem? (i := 13) rfl) : (Cond.instantiable RX1 12).before #[Value.ref b] s = true)
  obtain ⟨c2, i2, k2⟩ := u_known hts0 inX2 (hts _ (List.mem_of_getElem? (i := 26) rfl) : (Cond.instantiable RX2 3).before #[Value.ref b] s = true)
  obtain ⟨c3, i3, k3⟩ := u_known hts0 inX3 (hts _ (List.mem_of_getElem? (i := 30) rfl) : (Cond.instantiable RX3 8).before #[Value.ref b] s = true)
  obtain ⟨c4, i4, k4⟩ := u_known hts0 inX4 (hts _ (List.mem_of_getElem? (i := 18) rfl) : (Cond.instantiable RX4 4).before #[Value.ref b] s = true)
  obtain ⟨c5, i5, k5⟩ := u_known hts0 inX5 (hts _ (List.mem_of_getElem? (i := 40) rfl) : (Cond.instantiable RX5 3).before #[Value.ref b] s = true)
  obtain ⟨c6, i6, k6⟩ := u_known hts0 inX6 (hts _ (List.mem_of_getElem? (i := 87) rfl) : (Cond.instantiable RX6 2).before #[Value.ref b] s = true)
  obtain ⟨c7, i7, k7⟩ := u_known hts0 inX7 (hts _ (List.mem_of_getElem? (i := 1) rfl) : (Cond.instantiable RX7 10).before #[Value.ref b] s = true)
  obtain ⟨c8, i8, k8⟩ := u_known hts0 inX8 (hts _ (List.mem_of_getElem? (i := 4) rfl) : (Cond.instantiable RX8 29).before #[Value.ref b] s = true)
  obtain ⟨cI, kA, comp, h1, h2, h3⟩ := Cond.arrayClass_spec (args := #[Value.ref b]) (first := s) (o := none) (s := s) (idx := []) (type := .int) (hts _ (List.mem_of_getElem? (i := 37) rfl))
  refine ⟨fun k => [c0, c1, c2, c3, c4, c5, c6, c7, c8].getD k c0, fun k => [i0, i1, i2, i3, i4, i5, i6, i7, i8].getD k i0, cI, fun k q hq => ?_, fun k q hq => ?_⟩
  · have hk : k < 9 := (List.getElem?_eq_some_iff.mp hq).1
    exact match k, hk, hq with
    | 0, _, hq => by have h9 : some (RX0, TX0, 6) = some q := hq; cases h9; exact k0
    | 1, _, hq => by have h9 : some (RX1, TX1, 12) = some q := hq; cases h9; exact k1
    | 2, _, hq => by have h9 : some (RX2, TX2, 3) = some q := hq; cases h9; exact k2
    | 3, _, hq => by have h9 : some (RX3, TX3, 8) = some q := hq; cases h9; exact k3
    | 4, _, hq => by have h9 : some (RX4, TX4, 4) = some q := hq; cases h9; exact k4
    | 5, _, hq => by have h9 : some (RX5, TX5, 3) = some q := hq; cases h9; exact k5
    | 6, _, hq => by have h9 : some (RX6, TX6, 2) = some q := hq; cases h9; exact k6
    | 7, _, hq => by have h9 : some (RX7, TX7, 10) = some q := hq; cases h9; exact k7
    | 8, _, hq => by have h9 : some (RX8, TX8, 29) = some q := hq; cases h9; exact k8
    | k + 9, h, _ => absurd h (by omega)
  · have hk : k < 1 := (List.getElem?_eq_some_iff.mp hq).1
    obtain rfl : k = 0 := by omega
    have h9 : some (cI, FieldType.int) = some q := hq
    cases h9
    exact ⟨fun n z => ⟨fun k h => (by cases h), kA, h2, comp, h3⟩, h1⟩
theorem st_K3 {dC : Nat → ClassId} {dI : Nat → Nat → Nat} {cI cS cT : ClassId} {s : State} (hK : va_K (dC, dI) vwCl [(cI, .int)] s) (hS : ArrOfT s cS (.object RX5) ∧ va_RA s cS (.object RX5)) (hT : ArrOfT s cT (.object RJ0) ∧ va_RA s cT (.object RJ0)) : va_K (dC, dI) vwCl [(cI, .int), (cS, .object RX5), (cT, .object RJ0)] s := by
  refine ⟨hK.1, fun k q hq => ?_⟩
  have hk : k < 3 := (List.getElem?_eq_some_iff.mp hq).1
  rcases (show k = 0 ∨ k = 1 ∨ k = 2 by omega) with rfl | rfl | rfl
  · have h9 : some (cI, FieldType.int) = some q := hq
    cases h9; exact hK.2 0 _ rfl
  · have h9 : some (cS, FieldType.object RX5) = some q := hq
    cases h9; exact hS
  · have h9 : some (cT, FieldType.object RJ0) = some q := hq
    cases h9; exact hT

/-! the law's loop -/
theorem lw_cmp {q Ln : Nat} (hL : Ln ≤ 3072) (hq : q ≤ Ln) : (nI Ln - 6 < nI q) ↔ Ln < q + 6 := by
  by_cases h : 6 ≤ Ln
  · have e : nI Ln - 6 = nI (Ln - 6) := by
      have h1 := nI_add (Ln - 6) 6
      rw [Nat.sub_add_cancel h] at h1
      rw [← h1]
      have h2 : nI 6 = (6 : Int32) := rfl
      rw [h2, Int32.add_sub_cancel]
    rw [e, nI_ltI (by omega) (by omega)]
    omega
  · have hh : ∀ k, k < 6 → (nI k - 6).toInt < 0 := by decide +kernel
    have h0 := hh Ln (by omega)
    have h1 : (nI q).toInt = (q : Int) := nI_toInt (by omega)
    rw [Int32.lt_iff_toInt_lt, h1]
    constructor
    · intro _; omega
    · intro _; omega
set_option maxHeartbeats 4000000 in
theorem law_case {p : Program} {l : Launch} {e : Env} {s : State} {m : MethodId} {below : List Frame} {meth : Method} {c : Code} {b Ln : Nat} {xs : Nat → Int32} {E : EV} (C : LX p l s m meth c b Ln xs E) {q : Nat} {M : Mem} {S : Sta} (hc : q + 6 ≤ Ln) (hA : AC M S) (hR : AR M S) (hW : WFS S) (kk : ∀ (M1 : Mem) (S1 : Sta), AC M1 S1 → AR M1 S1 → WFS S1 → LW p l e s m below meth c b E M1 (nI q) 1468 []) : LW p l e s m below meth c b E M (nI q) 33 [.int (xs q &&& 63)] := by
  obtain ⟨k, hk, e1⟩ := pk_andE (xs q) (m := 63) 6 (by decide)
  rw [e1]
  by_cases h47 : k < 47
  · clear e1 hk
    revert k
    refine fa_s ?_ (lw_tab C (k := 46) (tgt := 1445) (by decide) ⟨1412, rfl, by decide⟩ (law_c46 C rfl hc hA hR hW kk))
    refine fa_s ?_ (lw_tab C (k := 45) (tgt := 1422) (by decide) ⟨1389, rfl, by decide⟩ (law_c45 C rfl hc hA hR hW kk))
    refine fa_s ?_ (lw_tab C (k := 44) (tgt := 1409) (by decide) ⟨1376, rfl, by decide⟩ (law_c44 C rfl hc hA hR hW kk))
    refine fa_s ?_ (lw_tab C (k := 43) (tgt := 1396) (by decide) ⟨1363, rfl, by decide⟩ (law_c43 C rfl hc hA hR hW kk))
    refine fa_s ?_ (lw_tab C (k := 42) (tgt := 1383) (by decide) ⟨1350, rfl, by decide⟩ (law_c42 C rfl hc hA hR hW kk))
    refine fa_s ?_ (lw_tab C (k := 41) (tgt := 1360) (by decide) ⟨1327, rfl, by decide⟩ (law_c41 C rfl hc hA hR hW kk))
    refine fa_s ?_ (lw_tab C (k := 40) (tgt := 1337) (by decide) ⟨1304, rfl, by decide⟩ (law_c40 C rfl hc hA hR hW kk))
    refine fa_s ?_ (lw_tab C (k := 39) (tgt := 1274) (by decide) ⟨1241, rfl, by decide⟩ (law_c39 C rfl hc hA hR hW kk))
    refine fa_s ?_ (lw_tab C (k := 38) (tgt := 1231) (by decide) ⟨1198, rfl, by decide⟩ (law_c38 C rfl hc hA hR hW kk))
    refine fa_s ?_ (lw_tab C (k := 37) (tgt := 1188) (by decide) ⟨1155, rfl, by decide⟩ (law_c37 C rfl hc hA hR hW kk))
    refine fa_s ?_ (lw_tab C (k := 36) (tgt := 1155) (by decide) ⟨1122, rfl, by decide⟩ (law_c36 C rfl hc hA hR hW kk))
    refine fa_s ?_ (lw_tab C (k := 35) (tgt := 1122) (by decide) ⟨1089, rfl, by decide⟩ (law_c35 C rfl hc hA hR hW kk))
    refine fa_s ?_ (lw_tab C (k := 34) (tgt := 1109) (by decide) ⟨1076, rfl, by decide⟩ (law_c34 C rfl hc hA hR hW kk))
    refine fa_s ?_ (lw_tab C (k := 33) (tgt := 1096) (by decide) ⟨1063, rfl, by decide⟩ (law_c33 C rfl hc hA hR hW kk))
    refine fa_s ?_ (lw_tab C (k := 32) (tgt := 1063) (by decide) ⟨1030, rfl, by decide⟩ (law_c32 C rfl hc hA hR hW kk))
    refine fa_s ?_ (lw_tab C (k := 31) (tgt := 1040) (by decide) ⟨1007, rfl, by decide⟩ (law_c31 C rfl hc hA hR hW kk))
    refine fa_s ?_ (lw_tab C (k := 30) (tgt := 1017) (by decide) ⟨984, rfl, by decide⟩ (law_c30 C rfl hc hA hR hW kk))
    refine fa_s ?_ (lw_tab C (k := 29) (tgt := 973) (by decide) ⟨940, rfl, by decide⟩ (law_c29 C rfl hc hA hR hW kk))
    refine fa_s ?_ (lw_tab C (k := 28) (tgt := 940) (by decide) ⟨907, rfl, by decide⟩ (law_c28 C rfl hc hA hR hW kk))
    refine fa_s ?_ (lw_tab C (k := 27) (tgt := 907) (by decide) ⟨874, rfl, by decide⟩ (law_c27 C rfl hc hA hR hW kk))
    refine fa_s ?_ (lw_tab C (k := 26) (tgt := 884) (by decide) ⟨851, rfl, by decide⟩ (law_c26 C rfl hc hA hR hW kk))
    refine fa_s ?_ (lw_tab C (k := 25) (tgt := 871) (by decide) ⟨838, rfl, by decide⟩ (law_c25 C rfl hc hA hR hW kk))
    refine fa_s ?_ (lw_tab C (k := 24) (tgt := 858) (by decide) ⟨825, rfl, by decide⟩ (law_c24 C rfl hc hA hR hW kk))
    refine fa_s ?_ (lw_tab C (k := 23) (tgt := 835) (by decide) ⟨802, rfl, by decide⟩ (law_c23 C rfl hc hA hR hW kk))
    refine fa_s ?_ (lw_tab C (k := 22) (tgt := 822) (by decide) ⟨789, rfl, by decide⟩ (law_c22 C rfl hc hA hR hW kk))
    refine fa_s ?_ (lw_tab C (k := 21) (tgt := 789) (by decide) ⟨756, rfl, by decide⟩ (law_c21 C rfl hc hA hR hW kk))
    refine fa_s ?_ (lw_tab C (k := 20) (tgt := 746) (by decide) ⟨713, rfl, by decide⟩ (law_c20 C rfl hc hA hR hW kk))
    refine fa_s ?_ (lw_tab C (k := 19) (tgt := 713) (by decide) ⟨680, rfl, by decide⟩ (law_c19 C rfl hc hA hR hW kk))
    refine fa_s ?_ (lw_tab C (k := 18) (tgt := 680) (by decide) ⟨647, rfl, by decide⟩ (law_c18 C rfl hc hA hR hW kk))
    refine fa_s ?_ (lw_tab C (k := 17) (tgt := 667) (by decide) ⟨634, rfl, by decide⟩ (law_c17 C rfl hc hA hR hW kk))
    refine fa_s ?_ (lw_tab C (k := 16) (tgt := 644) (by decide) ⟨611, rfl, by decide⟩ (law_c16 C rfl hc hA hR hW kk))
    refine fa_s ?_ (lw_tab C (k := 15) (tgt := 621) (by decide) ⟨588, rfl, by decide⟩ (law_c15 C rfl hc hA hR hW kk))
    refine fa_s ?_ (lw_tab C (k := 14) (tgt := 598) (by decide) ⟨565, rfl, by decide⟩ (law_c14 C rfl hc hA hR hW kk))
    refine fa_s ?_ (lw_tab C (k := 13) (tgt := 585) (by decide) ⟨552, rfl, by decide⟩ (law_c13 C rfl hc hA hR hW kk))
    refine fa_s ?_ (lw_tab C (k := 12) (tgt := 562) (by decide) ⟨529, rfl, by decide⟩ (law_c12 C rfl hc hA hR hW kk))
    refine fa_s ?_ (lw_tab C (k := 11) (tgt := 539) (by decide) ⟨506, rfl, by decide⟩ (law_c11 C rfl hc hA hR hW kk))
    refine fa_s ?_ (lw_tab C (k := 10) (tgt := 516) (by decide) ⟨483, rfl, by decide⟩ (law_c10 C rfl hc hA hR hW kk))
    refine fa_s ?_ (lw_tab C (k := 9) (tgt := 493) (by decide) ⟨460, rfl, by decide⟩ (law_c9 C rfl hc hA hR hW kk))
    refine fa_s ?_ (lw_tab C (k := 8) (tgt := 470) (by decide) ⟨437, rfl, by decide⟩ (law_c8 C rfl hc hA hR hW kk))
    refine fa_s ?_ (lw_tab C (k := 7) (tgt := 447) (by decide) ⟨414, rfl, by decide⟩ (law_c7 C rfl hc hA hR hW kk))
    refine fa_s ?_ (lw_tab C (k := 6) (tgt := 414) (by decide) ⟨381, rfl, by decide⟩ (law_c6 C rfl hc hA hR hW kk))
    refine fa_s ?_ (lw_tab C (k := 5) (tgt := 391) (by decide) ⟨358, rfl, by decide⟩ (law_c5 C rfl hc hA hR hW kk))
    refine fa_s ?_ (lw_tab C (k := 4) (tgt := 368) (by decide) ⟨335, rfl, by decide⟩ (law_c4 C rfl hc hA hR hW kk))
    refine fa_s ?_ (lw_tab C (k := 3) (tgt := 335) (by decide) ⟨302, rfl, by decide⟩ (law_c3 C rfl hc hA hR hW kk))
    refine fa_s ?_ (lw_tab C (k := 2) (tgt := 292) (by decide) ⟨259, rfl, by decide⟩ (law_c2 C rfl hc hA hR hW kk))
    refine fa_s ?_ (lw_tab C (k := 1) (tgt := 259) (by decide) ⟨226, rfl, by decide⟩ (law_c1 C rfl hc hA hR hW kk))
    refine fa_s ?_ (lw_tab C (k := 0) (tgt := 236) (by decide) ⟨203, rfl, by decide⟩ (law_c0 C rfl hc hA hR hW kk))
    exact fa_0
  · exact lw_tabO C (by omega) hk (kk M S hA hR hW)
theorem law_loop {p : Program} {l : Launch} {e : Env} {s : State} {m : MethodId} {below : List Frame} {meth : Method} {c : Code} {b Ln : Nat} {xs : Nat → Int32} {E : EV} (C : LX p l s m meth c b Ln xs E) : ∀ (n q : Nat) (M : Mem) (S : Sta), q ≤ Ln → Ln + 1 ≤ q + n → AC M S → AR M S → WFS S → LW p l e s m below meth c b E M (nI q) 18 [] := by
  intro n
  induction n with
  | zero => intro q M S h1 h2; omega
  | succ n ih =>
    intro q M S hq hn hA hR hW H locs ls hP hS hl
    have C9 := C
    obtain ⟨hx, hb, hr, hml, hown, hts, hX, hbl, hlk, hE, hK, hF, hAA, hLn⟩ := C9
    refine lv_iload_n hx hb dL_law_18 rfl (lv_at hl 0 rfl) ?_
    refine lv_aload_n hx hb dL_law_19 rfl (lv_at hl 1 rfl) ?_
    refine va_slen hx hb hX hbl (Nat.not_le.mpr hbl) hS dL_law_20 ?_
    refine lv_bipush (v := 6) hx hb dL_law_21 (by decide) ?_
    refine lv_isub hx hb dL_law_23 ?_
    refine lv_icmp_gt (tgt := 1474) hx hb dL_law_24 (by decide) (fun hgt => ?_) (fun hle => ?_)
    · exact lw_end C H locs ls hP hS hl
    · have hc : q + 6 ≤ Ln := Nat.not_lt.mp fun h => hle ((lw_cmp hLn hq).mpr h)
      refine lv_aload_n hx hb dL_law_27 rfl (lv_at hl 1 rfl) ?_
      refine lv_iload_n hx hb dL_law_28 rfl (lv_at hl 0 rfl) ?_
      refine va_sld hx hb hX hbl (Nat.not_le.mpr hbl) hS (vp_in_nI (show q < Ln by omega) (by omega)) dL_law_29 ?_
      rw [show (nI q).toNatClampNeg = q from nI_clamp (by omega)]
      refine lv_bipush (v := 63) hx hb dL_law_30 (by decide) ?_
      refine lv_iand hx hb dL_law_32 ?_
      refine law_case C hc hA hR hW (fun M1 S1 a1 a2 a3 H locs ls hP hS hl => ?_) H locs ls hP hS hl
      refine lv_iinc (i := 3) (k := 0) (v := nI (q + 6)) (lv' := [(3, .int (nI (q + 6))), (0, .ref b), (1, .ref (eA E 0)), (2, .ref (eA E 57))]) hx hb dL_law_1468 hl rfl (by rw [← nI_add]; rfl) (by decide) rfl (fun ls hl => ?_)
      refine lv_goto (tgt := 18) hx hb dL_law_1471 (by decide) ?_
      exact ih (q + 6) M1 S1 hc (by omega) a1 a2 a3 H locs ls hP hS hl
theorem st_K {p : Program} {s : State} {m : MethodId} {meth : Method} {c : Code} {b L : Nat} {xs : Nat → Int32} (C0 : lw_At p s m meth c b L xs) : ∃ (dC : Nat → ClassId) (dI : Nat → Nat → Nat) (cI : ClassId), va_K (dC, dI) vwCl [(cI, .int)] s := by
  obtain ⟨_, _, _, _, _, hts0, _⟩ := C0
  have hts : ∀ w ∈ wsL_law, w.before #[Value.ref b] s = true := fun w h => hts0 w (wsL_law_in w h)
  obtain ⟨c0, i0, k0⟩ := u_known hts0 inX0 (hts _ (List.mem_of_getElem? (i := 22) rfl) : (Cond.instantiable RX0 6).before #[Value.ref b] s = true)
  obtain ⟨c1, i1, k1⟩ := u_known hts0 inX1 (hts _ (List.mem_of_getElem? (i := 13) rfl) : (Cond.instantiable RX1 12).before #[Value.ref b] s = true)
  obtain ⟨c2, i2, k2⟩ := u_known hts0 inX2 (hts _ (List.mem_of_getElem? (i := 26) rfl) : (Cond.instantiable RX2 3).before #[Value.ref b] s = true)
  obtain ⟨c3, i3, k3⟩ := u_known hts0 inX3 (hts _ (List.mem_of_getElem? (i := 30) rfl) : (Cond.instantiable RX3 8).before #[Value.ref b] s = true)
  obtain ⟨c4, i4, k4⟩ := u_known hts0 inX4 (hts _ (List.mem_of_getElem? (i := 18) rfl) : (Cond.instantiable RX4 4).before #[Value.ref b] s = true)
  obtain ⟨c5, i5, k5⟩ := u_known hts0 inX5 (hts _ (List.mem_of_getElem? (i := 40) rfl) : (Cond.instantiable RX5 3).before #[Value.ref b] s = true)
  obtain ⟨c6, i6, k6⟩ := u_known hts0 inX6 (hts _ (List.mem_of_getElem? (i := 87) rfl) : (Cond.instantiable RX6 2).before #[Value.ref b] s = true)
  obtain ⟨c7, i7, k7⟩ := u_known hts0 inX7 (hts _ (List.mem_of_getElem? (i := 1) rfl) : (Cond.instantiable RX7 10).before #[Value.ref b] s = true)
  obtain ⟨c8, i8, k8⟩ := u_known hts0 inX8 (hts _ (List.mem_of_getElem? (i := 4) rfl) : (Cond.instantiable RX8 29).before #[Value.ref b] s = true)
  obtain ⟨cI, kA, comp, h1, h2, h3⟩ := Cond.arrayClass_spec (args := #[Value.ref b]) (first := s) (o := none) (s := s) (idx := []) (type := .int) (hts _ (List.mem_of_getElem? (i := 37) rfl))
  refine ⟨fun k => [c0, c1, c2, c3, c4, c5, c6, c7, c8].getD k c0, fun k => [i0, i1, i2, i3, i4, i5, i6, i7, i8].getD k i0, cI, fun k q hq => ?_, fun k q hq => ?_⟩
  · have hk : k < 9 := (List.getElem?_eq_some_iff.mp hq).1
    exact match k, hk, hq with
    | 0, _, hq => by have h9 : some (RX0, TX0, 6) = some q := hq; cases h9; exact k0
    | 1, _, hq => by have h9 : some (RX1, TX1, 12) = some q := hq; cases h9; exact k1
    | 2, _, hq => by have h9 : some (RX2, TX2, 3) = some q := hq; cases h9; exact k2
    | 3, _, hq => by have h9 : some (RX3, TX3, 8) = some q := hq; cases h9; exact k3
    | 4, _, hq => by have h9 : some (RX4, TX4, 4) = some q := hq; cases h9; exact k4
    | 5, _, hq => by have h9 : some (RX5, TX5, 3) = some q := hq; cases h9; exact k5
    | 6, _, hq => by have h9 : some (RX6, TX6, 2) = some q := hq; cases h9; exact k6
    | 7, _, hq => by have h9 : some (RX7, TX7, 10) = some q := hq; cases h9; exact k7
    | 8, _, hq => by have h9 : some (RX8, TX8, 29) = some q := hq; cases h9; exact k8
    | k + 9, h, _ => absurd h (by omega)
  · have hk : k < 1 := (List.getElem?_eq_some_iff.mp hq).1
    obtain rfl : k = 0 := by omega
    have h9 : some (cI, FieldType.int) = some q := hq
    cases h9
    exact ⟨fun n z => ⟨fun k h => (by cases h), kA, h2, comp, h3⟩, h1⟩
theorem st_K3 {dC : Nat → ClassId} {dI : Nat → Nat → Nat} {cI cS cT : ClassId} {s : State} (hK : va_K (dC, dI) vwCl [(cI, .int)] s) (hS : ArrOfT s cS (.object RX5) ∧ va_RA s cS (.object RX5)) (hT : ArrOfT s cT (.object RJ0) ∧ va_RA s cT (.object RJ0)) : va_K (dC, dI) vwCl [(cI, .int), (cS, .object RX5), (cT, .object RJ0)] s := by
  refine ⟨hK.1, fun k q hq => ?_⟩
  have hk : k < 3 := (List.getElem?_eq_some_iff.mp hq).1
  rcases (show k = 0 ∨ k = 1 ∨ k = 2 by omega) with rfl | rfl | rfl
  · have h9 : some (cI, FieldType.int) = some q := hq
    cases h9; exact hK.2 0 _ rfl
  · have h9 : some (cS, FieldType.object RX5) = some q := hq
    cases h9; exact hS
  · have h9 : some (cT, FieldType.object RJ0) = some q := hq
    cases h9; exact hT
/-! the law from its entry on -/
set_option maxHeartbeats 8000000 in
set_option maxRecDepth 100000 in
theorem whole_start {p : Program} {e : Env} {s : State} {m : MethodId} {below : List Frame} {meth : Method} {c : Code} (l : Launch) (hflags : l.flags = flags0) {b L : Nat} {xs : Nat → Int32} (hL : L ≤ 3072) (C0 : lw_At p s m meth c b L xs) : W p l e room_1 s m #[Value.ref b] below meth c s.heap [] 0 0 (lw_Z below #[Value.ref b] s) (entryFrame m ([Value.ref b] : List Value).toArray 4) := by
  obtain ⟨dC, dI, cI, hK⟩ := st_K C0
  obtain ⟨hx, hb, hr, hml, hown, hts0, hX, hbl, hlk, hgv⟩ := C0
  have hts : ∀ w ∈ wsL_law, w.before #[Value.ref b] s = true := fun w h => hts0 w (wsL_law_in w h)
  have hs : ∀ w ∈ flatC stG, w.before #[Value.ref b] s = true := flat_of_before stG hgv
  obtain ⟨A, hAe⟩ : ∃ A : Nat → Prop, A = (fun q : Nat => s.heap.size ≤ q) := ⟨_, rfl⟩
  have hA : ∀ q : Nat, s.heap.size ≤ q → A q := fun q h => by rw [hAe]; exact h
  have hA2 : ∀ q : Nat, A q → s.heap.size ≤ q := fun q h => by rw [hAe] at h; exact h
  have hA0 : ∀ a : Nat, a < s.heap.size → ¬ A a := fun a h1 h2 => absurd (hA2 a h2) (Nat.not_le.mpr h1)
  obtain ⟨ek, ev, hVS, hVE⟩ := st_str hA0 hs
  have hVR : ∀ q ∈ srefL, vk_R q.1 q.2.1 q.2.2.1 (ek q.2.2.2) s := fun q hq => vk_R.of (hts0 _ (stR q hq)) (hVE q hq)
  have hN : XNest s := fun q hq => va_Nw.of rfl (hts0 _ (stNw q hq))
  have hO5 : va_AO RX5 s := va_AO.of (hts0 _ (stZ _ (List.mem_of_getElem? (i := 6) rfl)))
  have hO0 : va_AO RJ0 s := va_AO.of (hts0 _ (stZ _ (List.mem_of_getElem? (i := 7) rfl)))
  obtain ⟨uu, hUe, hTU⟩ := va_Tof (tm := .static "SharedShadow$Land" "UNDER" "[I") (ty := .int) (N := 7) (f := fun j => .int (und j)) (A := A) (by decide) (hs _ (stY _ (List.mem_of_getElem? (i := 2) rfl))) (va_eqt (hs _ (stY _ (List.mem_of_getElem? (i := 3) rfl)))) (fun j hj => va_eqt (hs _ (stU j hj))) hA0
  have hZU : va_Z "SharedShadow$Land" "UNDER" "[I" (.ref uu) A s s.heap := va_Zof (hts0 _ (stZ _ (List.mem_of_getElem? (i := 0) rfl))) (hts0 _ (stZ _ (List.mem_of_getElem? (i := 1) rfl))) hUe hA0
  have hZC : va_Z "java/lang/String" "COMPACT_STRINGS" "Z" (.int 1) A s s.heap := va_Zof (hts0 _ (stZ _ (List.mem_of_getElem? (i := 2) rfl))) (hts0 _ (stZ _ (List.mem_of_getElem? (i := 3) rfl))) (va_eqi (hs _ (stY _ (List.mem_of_getElem? (i := 0) rfl)))) hA0
  have hZq : va_Zq "jdk/internal/util/Preconditions" "SIOOBE_FORMATTER" "Ljava/util/function/BiFunction;" A s s.heap := va_Zqof (hts0 _ (stZ _ (List.mem_of_getElem? (i := 4) rfl))) (hts0 _ (stZ _ (List.mem_of_getElem? (i := 5) rfl))) (hs _ (stY _ (List.mem_of_getElem? (i := 1) rfl))) hA0
  obtain ⟨cS, hKS⟩ := ao_K hO5
  obtain ⟨cT, hKT⟩ := ao_K hO0
  have hP : va_P (dC, dI) vwCl [] s.heap := fun k q h => by simp at h
  have hD : va_D A [] := ⟨fun i j x y h _ _ => by simp at h, fun k q h => by simp at h⟩
  have hS : va_S A s.heap s.heap [] := va_S.rf
  have hl := lv_entry ([.ref b]) (n := 4) (Nat.le_of_ble_eq_true rfl)
  rw [lg_entry_eq]
  generalize (lg_sl ([.ref b]) ++ List.replicate (4 - (lg_sl ([.ref b])).length) Slot.unset).toArray = ls at hl ⊢
  have hl : lv_has ls 4 [(0, .ref b)] := hl
  refine va_new (ci := 7) (fs := [.null, .null, .null, .null, .null, .null, .null, .null, .null, .int 0]) (C := RX7) (T := TX7) (N := 10) hx hb hts0 inX7 tyX7 tyX7_ok hown (hts _ (List.mem_of_getElem? (i := 0) rfl)) (hts _ (List.mem_of_getElem? (i := 1) rfl)) (hts _ (List.mem_of_getElem? (i := 2) rfl)) hK hP hD hS hA rfl (fun j hj => by rcases (show j = 0 ∨ j = 1 ∨ j = 2 ∨ j = 3 ∨ j = 4 ∨ j = 5 ∨ j = 6 ∨ j = 7 ∨ j = 8 ∨ j = 9 by omega) with rfl | rfl | rfl | rfl | rfl | rfl | rfl | rfl | rfl | rfl <;> rfl) (Nat.le_of_ble_eq_true rfl) (Nat.le_of_ble_eq_true rfl) dL_law_0 (fun a0 H hP hD hS => ?_)
  have hP : va_P (dC, dI) vwCl [(a0, .inr (7, [.null, .null, .null, .null, .null, .null, .null, .null, .null, .int 0]))] H := hP
  have hD : va_D A [(a0, .inr (7, [.null, .null, .null, .null, .null, .null, .null, .null, .null, .int 0]))] := hD
  refine W.widen (k := 1) (n := 10) (Nat.le_of_ble_eq_true rfl) (Nat.le_of_ble_eq_true rfl) ?_
  refine lv_dup hx hb dL_law_3 rfl ?_
  have hPc := hP.sub (ws' := [(a0, .inr (7, [.null, .null, .null, .null, .null, .null, .null, .null, .null, .int 0]))]) [0] rfl
  have hDc := hD.sub (ws' := [(a0, .inr (7, [.null, .null, .null, .null, .null, .null, .null, .null, .null, .int 0]))]) [0] (by decide) rfl
  have hFc := va_free (wc := [(a0, .inr (7, [.null, .null, .null, .null, .null, .null, .null, .null, .null, .int 0]))]) hD hS hA [0] rfl
  refine va_callv (va_runI (As := []) (rest := [.ref a0]) ⟨hx, hb, hml, hown, hts⟩ (cin_X7 l dC dI cI a0 H.size) (cwI 0 hts gL_law_X7_init rfl rfl rfl (hts _ (List.mem_of_getElem? (i := 2) rfl)) (hts _ (List.mem_of_getElem? (i := 6) rfl)) (hts _ (List.mem_of_getElem? (i := 7) rfl)) rfl (by decide +kernel) ⟨Nat.le_of_ble_eq_true rfl, Nat.le_of_ble_eq_true rfl⟩) ⟨fun a U g mk q => by obtain ⟨q0, q1, qP, qK, qD, qX⟩ := q; exact ⟨q0, q1, qP, va_K.moved (u := U) (U := U.calling g mk a) (Vm.Alike.refl U.vm) qK, qD, ⟨fun w hw => va_Nw.same rfl (rfl : U.vm = (U.calling g mk a).vm) (qX.1 w hw), va_AO.moved (u := U) (U := U.calling g mk a) (Vm.Alike.refl U.vm) qX.2⟩⟩, fun U hU hW => ⟨rfl, by rw [hU], by rw [hU]; exact hPc, va_K.moved hW.alike hK, hDc.weaken (fun _ _ _ _ => trivial), ⟨fun w hw => va_Nw.warmM hW (hN w hw), va_AO.moved hW.alike hO5⟩⟩⟩ rfl rfl hl.1 rfl (lv_room (Nat.le_of_ble_eq_true rfl)) dL_law_4 ⟨Nat.le_of_ble_eq_true rfl, Nat.le_of_ble_eq_true rfl⟩) hS (fun q _ h => hFc q h) hFc (fun u t H1 locs ht hvm hw hB hz1 hk1 hS => ?_)
  obtain ⟨cS1, aq1, aq2, aq3, aq4, aq5, aq6, aq7, aq8, aq9, aq10, aq11, aq12, aq13, aq14, aq15, aq16, aq17, aq18, aq19, aq20, aq21, aq22, aq23, aq24, aq25, aq26, aq27, aq28, aq29, aq30, aq31, aq32, aq33, aq34, aq35, aq36, aq37, aq38, aq39, aq40, aq41, aq42, aq43, aq44, aq45, aq46, aq47, aq48, aq49, aq50, aq51, aq52, aq53, aq54, aq55, aq56, hP1, hK1, hD1⟩ := hB
  rw [ht] at hP1
  have eS : cS1 = cS := ao_eq hvm hKS.2 (hK1.2 1 _ rfl).2
  rw [eS] at hP1 hD1
  obtain ⟨hu1, hu2, hu3, hu4⟩ := hw
  obtain ⟨hP, hD⟩ := va_join (wr := []) (w1 := [(a0, .inr (7, [.ref aq1, .ref aq8, .ref aq15, .ref aq24, .ref aq29, .ref aq33, .ref aq34, .ref aq47, .ref aq56, .int 0])), (aq1, .inr (1, [.ref aq2, .ref aq3, .ref aq4, .ref aq5, .ref aq6, .ref aq7, .int 0, .int 65535, .int 0, .int 0, .int 0, .int 1])), (aq2, .inl (cI, 8, .inl (fun _ => 0))), (aq3, .inl (cI, 8, .inl (fun _ => 0))), (aq4, .inl (cI, 8, .inl (fun _ => 0))), (aq5, .inl (cI, 8, .inl (fun _ => 0))), (aq6, .inl (cI, 8, .inl (fun _ => 0))), (aq7, .inl (cI, 10, .inl (u.1))), (aq8, .inr (1, [.ref aq9, .ref aq10, .ref aq11, .ref aq12, .ref aq13, .ref aq14, .int 0, .int 65535, .int 0, .int 0, .int 0, .int 1])), (aq9, .inl (cI, 8, .inl (fun _ => 0))), (aq10, .inl (cI, 8, .inl (fun _ => 0))), (aq11, .inl (cI, 8, .inl (fun _ => 0))), (aq12, .inl (cI, 8, .inl (fun _ => 0))), (aq13, .inl (cI, 8, .inl (fun _ => 0))), (aq14, .inl (cI, 10, .inl (u.2.1))), (aq15, .inr (4, [.ref aq16, .ref aq23, .int 0, .int 0])), (aq16, .inr (1, [.ref aq17, .ref aq18, .ref aq19, .ref aq20, .ref aq21, .ref aq22, .int 0, .int 65535, .int 0, .int 0, .int 0, .int 1])), (aq17, .inl (cI, 8, .inl (fun _ => 0))), (aq18, .inl (cI, 8, .inl (fun _ => 0))), (aq19, .inl (cI, 8, .inl (fun _ => 0))), (aq20, .inl (cI, 8, .inl (fun _ => 0))), (aq21, .inl (cI, 8, .inl (fun _ => 0))), (aq22, .inl (cI, 10, .inl (u.2.2.1))), (aq23, .inl (cI, 16, .inl (fun _ => 0))), (aq24, .inr (0, [.ref aq25, .ref aq26, .ref aq27, .ref aq28, .int 0, .int 0])), (aq25, .inl (cI, 2, .inl (fun _ => 0))), (aq26, .inl (cI, 2, .inl (fun _ => 0))), (aq27, .inl (cI, 2, .inl (fun _ => 0))), (aq28, .inl (cI, 34, .inl (fun _ => 0))), (aq29, .inr (2, [.ref aq30, .ref aq31, .ref aq32])), (aq30, .inl (cI, 64, .inl (fun _ => 0))), (aq31, .inl (cI, 256, .inl (fun _ => 0))), (aq32, .inl (cI, 256, .inl (fun _ => 0))), (aq33, .inr (3, [.ref aq34, .ref aq36, .ref aq43, .ref aq44, .ref aq45, .ref aq46, .int 0, .int 0])), (aq34, .inr (6, [.ref aq35, .int 0])), (aq35, .inl (cI, 120, .inl (fun _ => 0))), (aq36, .inr (1, [.ref aq37, .ref aq38, .ref aq39, .ref aq40, .ref aq41, .ref aq42, .int 0, .int 65535, .int 0, .int 0, .int 0, .int 1])), (aq37, .inl (cI, 8, .inl (fun _ => 0))), (aq38, .inl (cI, 8, .inl (fun _ => 0))), (aq39, .inl (cI, 8, .inl (fun _ => 0))), (aq40, .inl (cI, 8, .inl (fun _ => 0))), (aq41, .inl (cI, 8, .inl (fun _ => 0))), (aq42, .inl (cI, 10, .inl (u.2.2.2))), (aq43, .inl (cI, 121, .inl (fun _ => 0))), (aq44, .inl (cI, 121, .inl (fun _ => 0))), (aq45, .inl (cI, 121, .inl (fun _ => 0))), (aq46, .inl (cI, 121, .inl (fun _ => 0))), (aq47, .inl (cS, 4, .inr (.inr (.inr (.inr (va_up (va_up (va_up (va_up (fun _ => none) 0 (some aq48)) 1 (some aq50)) 2 (some aq52)) 3 (some aq54))))))), (aq48, .inr (5, [.ref aq49, .int 0, .int 0])), (aq49, .inl (cI, 40, .inl (fun _ => 0))), (aq50, .inr (5, [.ref aq51, .int 0, .int 0])), (aq51, .inl (cI, 40, .inl (fun _ => 0))), (aq52, .inr (5, [.ref aq53, .int 0, .int 0])), (aq53, .inl (cI, 40, .inl (fun _ => 0))), (aq54, .inr (5, [.ref aq55, .int 0, .int 0])), (aq55, .inl (cI, 40, .inl (fun _ => 0))), (aq56, .inl (cI, 7, .inl (fun _ => 0)))]) hP hD [0] [] rfl rfl (by decide) (by decide) hk1 hFc hP1 hD1
  clear hP1 hD1 hK1 hPc hDc hFc hk1 hz1 ht hvm eS
  generalize H1 = H at hP hS ⊢
  have hP : va_P (dC, dI) vwCl [(a0, .inr (7, [.ref aq1, .ref aq8, .ref aq15, .ref aq24, .ref aq29, .ref aq33, .ref aq34, .ref aq47, .ref aq56, .int 0])), (aq1, .inr (1, [.ref aq2, .ref aq3, .ref aq4, .ref aq5, .ref aq6, .ref aq7, .int 0, .int 65535, .int 0, .int 0, .int 0, .int 1])), (aq2, .inl (cI, 8, .inl (fun _ => 0))), (aq3, .inl (cI, 8, .inl (fun _ => 0))), (aq4, .inl (cI, 8, .inl (fun _ => 0))), (aq5, .inl (cI, 8, .inl (fun _ => 0))), (aq6, .inl (cI, 8, .inl (fun _ => 0))), (aq7, .inl (cI, 10, .inl (u.1))), (aq8, .inr (1, [.ref aq9, .ref aq10, .ref aq11, .ref aq12, .ref aq13, .ref aq14, .int 0, .int 65535, .int 0, .int 0, .int 0, .int 1])), (aq9, .inl (cI, 8, .inl (fun _ => 0))), (aq10, .inl (cI, 8, .inl (fun _ => 0))), (aq11, .inl (cI, 8, .inl (fun _ => 0))), (aq12, .inl (cI, 8, .inl (fun _ => 0))), (aq13, .inl (cI, 8, .inl (fun _ => 0))), (aq14, .inl (cI, 10, .inl (u.2.1))), (aq15, .inr (4, [.ref aq16, .ref aq23, .int 0, .int 0])), (aq16, .inr (1, [.ref aq17, .ref aq18, .ref aq19, .ref aq20, .ref aq21, .ref aq22, .int 0, .int 65535, .int 0, .int 0, .int 0, .int 1])), (aq17, .inl (cI, 8, .inl (fun _ => 0))), (aq18, .inl (cI, 8, .inl (fun _ => 0))), (aq19, .inl (cI, 8, .inl (fun _ => 0))), (aq20, .inl (cI, 8, .inl (fun _ => 0))), (aq21, .inl (cI, 8, .inl (fun _ => 0))), (aq22, .inl (cI, 10, .inl (u.2.2.1))), (aq23, .inl (cI, 16, .inl (fun _ => 0))), (aq24, .inr (0, [.ref aq25, .ref aq26, .ref aq27, .ref aq28, .int 0, .int 0])), (aq25, .inl (cI, 2, .inl (fun _ => 0))), (aq26, .inl (cI, 2, .inl (fun _ => 0))), (aq27, .inl (cI, 2, .inl (fun _ => 0))), (aq28, .inl (cI, 34, .inl (fun _ => 0))), (aq29, .inr (2, [.ref aq30, .ref aq31, .ref aq32])), (aq30, .inl (cI, 64, .inl (fun _ => 0))), (aq31, .inl (cI, 256, .inl (fun _ => 0))), (aq32, .inl (cI, 256, .inl (fun _ => 0))), (aq33, .inr (3, [.ref aq34, .ref aq36, .ref aq43, .ref aq44, .ref aq45, .ref aq46, .int 0, .int 0])), (aq34, .inr (6, [.ref aq35, .int 0])), (aq35, .inl (cI, 120, .inl (fun _ => 0))), (aq36, .inr (1, [.ref aq37, .ref aq38, .ref aq39, .ref aq40, .ref aq41, .ref aq42, .int 0, .int 65535, .int 0, .int 0, .int 0, .int 1])), (aq37, .inl (cI, 8, .inl (fun _ => 0))), (aq38, .inl (cI, 8, .inl (fun _ => 0))), (aq39, .inl (cI, 8, .inl (fun _ => 0))), (aq40, .inl (cI, 8, .inl (fun _ => 0))), (aq41, .inl (cI, 8, .inl (fun _ => 0))), (aq42, .inl (cI, 10, .inl (u.2.2.2))), (aq43, .inl (cI, 121, .inl (fun _ => 0))), (aq44, .inl (cI, 121, .inl (fun _ => 0))), (aq45, .inl (cI, 121, .inl (fun _ => 0))), (aq46, .inl (cI, 121, .inl (fun _ => 0))), (aq47, .inl (cS, 4, .inr (.inr (.inr (.inr (va_up (va_up (va_up (va_up (fun _ => none) 0 (some aq48)) 1 (some aq50)) 2 (some aq52)) 3 (some aq54))))))), (aq48, .inr (5, [.ref aq49, .int 0, .int 0])), (aq49, .inl (cI, 40, .inl (fun _ => 0))), (aq50, .inr (5, [.ref aq51, .int 0, .int 0])), (aq51, .inl (cI, 40, .inl (fun _ => 0))), (aq52, .inr (5, [.ref aq53, .int 0, .int 0])), (aq53, .inl (cI, 40, .inl (fun _ => 0))), (aq54, .inr (5, [.ref aq55, .int 0, .int 0])), (aq55, .inl (cI, 40, .inl (fun _ => 0))), (aq56, .inl (cI, 7, .inl (fun _ => 0)))] H := hP
  have hD : va_D A [(a0, .inr (7, [.ref aq1, .ref aq8, .ref aq15, .ref aq24, .ref aq29, .ref aq33, .ref aq34, .ref aq47, .ref aq56, .int 0])), (aq1, .inr (1, [.ref aq2, .ref aq3, .ref aq4, .ref aq5, .ref aq6, .ref aq7, .int 0, .int 65535, .int 0, .int 0, .int 0, .int 1])), (aq2, .inl (cI, 8, .inl (fun _ => 0))), (aq3, .inl (cI, 8, .inl (fun _ => 0))), (aq4, .inl (cI, 8, .inl (fun _ => 0))), (aq5, .inl (cI, 8, .inl (fun _ => 0))), (aq6, .inl (cI, 8, .inl (fun _ => 0))), (aq7, .inl (cI, 10, .inl (u.1))), (aq8, .inr (1, [.ref aq9, .ref aq10, .ref aq11, .ref aq12, .ref aq13, .ref aq14, .int 0, .int 65535, .int 0, .int 0, .int 0, .int 1])), (aq9, .inl (cI, 8, .inl (fun _ => 0))), (aq10, .inl (cI, 8, .inl (fun _ => 0))), (aq11, .inl (cI, 8, .inl (fun _ => 0))), (aq12, .inl (cI, 8, .inl (fun _ => 0))), (aq13, .inl (cI, 8, .inl (fun _ => 0))), (aq14, .inl (cI, 10, .inl (u.2.1))), (aq15, .inr (4, [.ref aq16, .ref aq23, .int 0, .int 0])), (aq16, .inr (1, [.ref aq17, .ref aq18, .ref aq19, .ref aq20, .ref aq21, .ref aq22, .int 0, .int 65535, .int 0, .int 0, .int 0, .int 1])), (aq17, .inl (cI, 8, .inl (fun _ => 0))), (aq18, .inl (cI, 8, .inl (fun _ => 0))), (aq19, .inl (cI, 8, .inl (fun _ => 0))), (aq20, .inl (cI, 8, .inl (fun _ => 0))), (aq21, .inl (cI, 8, .inl (fun _ => 0))), (aq22, .inl (cI, 10, .inl (u.2.2.1))), (aq23, .inl (cI, 16, .inl (fun _ => 0))), (aq24, .inr (0, [.ref aq25, .ref aq26, .ref aq27, .ref aq28, .int 0, .int 0])), (aq25, .inl (cI, 2, .inl (fun _ => 0))), (aq26, .inl (cI, 2, .inl (fun _ => 0))), (aq27, .inl (cI, 2, .inl (fun _ => 0))), (aq28, .inl (cI, 34, .inl (fun _ => 0))), (aq29, .inr (2, [.ref aq30, .ref aq31, .ref aq32])), (aq30, .inl (cI, 64, .inl (fun _ => 0))), (aq31, .inl (cI, 256, .inl (fun _ => 0))), (aq32, .inl (cI, 256, .inl (fun _ => 0))), (aq33, .inr (3, [.ref aq34, .ref aq36, .ref aq43, .ref aq44, .ref aq45, .ref aq46, .int 0, .int 0])), (aq34, .inr (6, [.ref aq35, .int 0])), (aq35, .inl (cI, 120, .inl (fun _ => 0))), (aq36, .inr (1, [.ref aq37, .ref aq38, .ref aq39, .ref aq40, .ref aq41, .ref aq42, .int 0, .int 65535, .int 0, .int 0, .int 0, .int 1])), (aq37, .inl (cI, 8, .inl (fun _ => 0))), (aq38, .inl (cI, 8, .inl (fun _ => 0))), (aq39, .inl (cI, 8, .inl (fun _ => 0))), (aq40, .inl (cI, 8, .inl (fun _ => 0))), (aq41, .inl (cI, 8, .inl (fun _ => 0))), (aq42, .inl (cI, 10, .inl (u.2.2.2))), (aq43, .inl (cI, 121, .inl (fun _ => 0))), (aq44, .inl (cI, 121, .inl (fun _ => 0))), (aq45, .inl (cI, 121, .inl (fun _ => 0))), (aq46, .inl (cI, 121, .inl (fun _ => 0))), (aq47, .inl (cS, 4, .inr (.inr (.inr (.inr (va_up (va_up (va_up (va_up (fun _ => none) 0 (some aq48)) 1 (some aq50)) 2 (some aq52)) 3 (some aq54))))))), (aq48, .inr (5, [.ref aq49, .int 0, .int 0])), (aq49, .inl (cI, 40, .inl (fun _ => 0))), (aq50, .inr (5, [.ref aq51, .int 0, .int 0])), (aq51, .inl (cI, 40, .inl (fun _ => 0))), (aq52, .inr (5, [.ref aq53, .int 0, .int 0])), (aq53, .inl (cI, 40, .inl (fun _ => 0))), (aq54, .inr (5, [.ref aq55, .int 0, .int 0])), (aq55, .inl (cI, 40, .inl (fun _ => 0))), (aq56, .inl (cI, 7, .inl (fun _ => 0)))] := hD
  refine W.widen (k := 57) (n := 1700) (Nat.le_of_ble_eq_true rfl) (Nat.le_of_ble_eq_true rfl) ?_
  refine lv_astore_n (lv' := [(1, .ref a0), (0, .ref b)]) hx hb dL_law_7 rfl hl (by decide) rfl (fun ls hl => ?_)
  refine va_new (ci := 8) (fs := [.null, .null, .null, .int 0, .null, .int 0, .int 0, .int 0, .int 0, .null, .null, .null, .int 0, .null, .null, .int 0, .int 0, .int 0, .int 0, .int 0, .int 0, .null, .null, .int 0, .int 0, .null, .null, .null, .null]) (C := RX8) (T := TX8) (N := 29) hx hb hts0 inX8 tyX8 tyX8_ok hown (hts _ (List.mem_of_getElem? (i := 3) rfl)) (hts _ (List.mem_of_getElem? (i := 4) rfl)) (hts _ (List.mem_of_getElem? (i := 5) rfl)) hK hP hD hS hA rfl (fun j hj => by rcases (show j = 0 ∨ j = 1 ∨ j = 2 ∨ j = 3 ∨ j = 4 ∨ j = 5 ∨ j = 6 ∨ j = 7 ∨ j = 8 ∨ j = 9 ∨ j = 10 ∨ j = 11 ∨ j = 12 ∨ j = 13 ∨ j = 14 ∨ j = 15 ∨ j = 16 ∨ j = 17 ∨ j = 18 ∨ j = 19 ∨ j = 20 ∨ j = 21 ∨ j = 22 ∨ j = 23 ∨ j = 24 ∨ j = 25 ∨ j = 26 ∨ j = 27 ∨ j = 28 by omega) with rfl | rfl | rfl | rfl | rfl | rfl | rfl | rfl | rfl | rfl | rfl | rfl | rfl | rfl | rfl | rfl | rfl | rfl | rfl | rfl | rfl | rfl | rfl | rfl | rfl | rfl | rfl | rfl | rfl <;> rfl) (Nat.le_of_ble_eq_true rfl) (Nat.le_of_ble_eq_true rfl) dL_law_8 (fun b0 H hP hD hS => ?_)
  have hP : va_P (dC, dI) vwCl [(a0, .inr (7, [.ref aq1, .ref aq8, .ref aq15, .ref aq24, .ref aq29, .ref aq33, .ref aq34, .ref aq47, .ref aq56, .int 0])), (aq1, .inr (1, [.ref aq2, .ref aq3, .ref aq4, .ref aq5, .ref aq6, .ref aq7, .int 0, .int 65535, .int 0, .int 0, .int 0, .int 1])), (aq2, .inl (cI, 8, .inl (fun _ => 0))), (aq3, .inl (cI, 8, .inl (fun _ => 0))), (aq4, .inl (cI, 8, .inl (fun _ => 0))), (aq5, .inl (cI, 8, .inl (fun _ => 0))), (aq6, .inl (cI, 8, .inl (fun _ => 0))), (aq7, .inl (cI, 10, .inl (u.1))), (aq8, .inr (1, [.ref aq9, .ref aq10, .ref aq11, .ref aq12, .ref aq13, .ref aq14, .int 0, .int 65535, .int 0, .int 0, .int 0, .int 1])), (aq9, .inl (cI, 8, .inl (fun _ => 0))), (aq10, .inl (cI, 8, .inl (fun _ => 0))), (aq11, .inl (cI, 8, .inl (fun _ => 0))), (aq12, .inl (cI, 8, .inl (fun _ => 0))), (aq13, .inl (cI, 8, .inl (fun _ => 0))), (aq14, .inl (cI, 10, .inl (u.2.1))), (aq15, .inr (4, [.ref aq16, .ref aq23, .int 0, .int 0])), (aq16, .inr (1, [.ref aq17, .ref aq18, .ref aq19, .ref aq20, .ref aq21, .ref aq22, .int 0, .int 65535, .int 0, .int 0, .int 0, .int 1])), (aq17, .inl (cI, 8, .inl (fun _ => 0))), (aq18, .inl (cI, 8, .inl (fun _ => 0))), (aq19, .inl (cI, 8, .inl (fun _ => 0))), (aq20, .inl (cI, 8, .inl (fun _ => 0))), (aq21, .inl (cI, 8, .inl (fun _ => 0))), (aq22, .inl (cI, 10, .inl (u.2.2.1))), (aq23, .inl (cI, 16, .inl (fun _ => 0))), (aq24, .inr (0, [.ref aq25, .ref aq26, .ref aq27, .ref aq28, .int 0, .int 0])), (aq25, .inl (cI, 2, .inl (fun _ => 0))), (aq26, .inl (cI, 2, .inl (fun _ => 0))), (aq27, .inl (cI, 2, .inl (fun _ => 0))), (aq28, .inl (cI, 34, .inl (fun _ => 0))), (aq29, .inr (2, [.ref aq30, .ref aq31, .ref aq32])), (aq30, .inl (cI, 64, .inl (fun _ => 0))), (aq31, .inl (cI, 256, .inl (fun _ => 0))), (aq32, .inl (cI, 256, .inl (fun _ => 0))), (aq33, .inr (3, [.ref aq34, .ref aq36, .ref aq43, .ref aq44, .ref aq45, .ref aq46, .int 0, .int 0])), (aq34, .inr (6, [.ref aq35, .int 0])), (aq35, .inl (cI, 120, .inl (fun _ => 0))), (aq36, .inr (1, [.ref aq37, .ref aq38, .ref aq39, .ref aq40, .ref aq41, .ref aq42, .int 0, .int 65535, .int 0, .int 0, .int 0, .int 1])), (aq37, .inl (cI, 8, .inl (fun _ => 0))), (aq38, .inl (cI, 8, .inl (fun _ => 0))), (aq39, .inl (cI, 8, .inl (fun _ => 0))), (aq40, .inl (cI, 8, .inl (fun _ => 0))), (aq41, .inl (cI, 8, .inl (fun _ => 0))), (aq42, .inl (cI, 10, .inl (u.2.2.2))), (aq43, .inl (cI, 121, .inl (fun _ => 0))), (aq44, .inl (cI, 121, .inl (fun _ => 0))), (aq45, .inl (cI, 121, .inl (fun _ => 0))), (aq46, .inl (cI, 121, .inl (fun _ => 0))), (aq47, .inl (cS, 4, .inr (.inr (.inr (.inr (va_up (va_up (va_up (va_up (fun _ => none) 0 (some aq48)) 1 (some aq50)) 2 (some aq52)) 3 (some aq54))))))), (aq48, .inr (5, [.ref aq49, .int 0, .int 0])), (aq49, .inl (cI, 40, .inl (fun _ => 0))), (aq50, .inr (5, [.ref aq51, .int 0, .int 0])), (aq51, .inl (cI, 40, .inl (fun _ => 0))), (aq52, .inr (5, [.ref aq53, .int 0, .int 0])), (aq53, .inl (cI, 40, .inl (fun _ => 0))), (aq54, .inr (5, [.ref aq55, .int 0, .int 0])), (aq55, .inl (cI, 40, .inl (fun _ => 0))), (aq56, .inl (cI, 7, .inl (fun _ => 0))), (b0, .inr (8, [.null, .null, .null, .int 0, .null, .int 0, .int 0, .int 0, .int 0, .null, .null, .null, .int 0, .null, .null, .int 0, .int 0, .int 0, .int 0, .int 0, .int 0, .null, .null, .int 0, .int 0, .null, .null, .null, .null]))] H := hP
  have hD : va_D A [(a0, .inr (7, [.ref aq1, .ref aq8, .ref aq15, .ref aq24, .ref aq29, .ref aq33, .ref aq34, .ref aq47, .ref aq56, .int 0])), (aq1, .inr (1, [.ref aq2, .ref aq3, .ref aq4, .ref aq5, .ref aq6, .ref aq7, .int 0, .int 65535, .int 0, .int 0, .int 0, .int 1])), (aq2, .inl (cI, 8, .inl (fun _ => 0))), (aq3, .inl (cI, 8, .inl (fun _ => 0))), (aq4, .inl (cI, 8, .inl (fun _ => 0))), (aq5, .inl (cI, 8, .inl (fun _ => 0))), (aq6, .inl (cI, 8, .inl (fun _ => 0))), (aq7, .inl (cI, 10, .inl (u.1))), (aq8, .inr (1, [.ref aq9, .ref aq10, .ref aq11, .ref aq12, .ref aq13, .ref aq14, .int 0, .int 65535, .int 0, .int 0, .int 0, .int 1])), (aq9, .inl (cI, 8, .inl (fun _ => 0))), (aq10, .inl (cI, 8, .inl (fun _ => 0))), (aq11, .inl (cI, 8, .inl (fun _ => 0))), (aq12, .inl (cI, 8, .inl (fun _ => 0))), (aq13, .inl (cI, 8, .inl (fun _ => 0))), (aq14, .inl (cI, 10, .inl (u.2.1))), (aq15, .inr (4, [.ref aq16, .ref aq23, .int 0, .int 0])), (aq16, .inr (1, [.ref aq17, .ref aq18, .ref aq19, .ref aq20, .ref aq21, .ref aq22, .int 0, .int 65535, .int 0, .int 0, .int 0, .int 1])), (aq17, .inl (cI, 8, .inl (fun _ => 0))), (aq18, .inl (cI, 8, .inl (fun _ => 0))), (aq19, .inl (cI, 8, .inl (fun _ => 0))), (aq20, .inl (cI, 8, .inl (fun _ => 0))), (aq21, .inl (cI, 8, .inl (fun _ => 0))), (aq22, .inl (cI, 10, .inl (u.2.2.1))), (aq23, .inl (cI, 16, .inl (fun _ => 0))), (aq24, .inr (0, [.ref aq25, .ref aq26, .ref aq27, .ref aq28, .int 0, .int 0])), (aq25, .inl (cI, 2, .inl (fun _ => 0))), (aq26, .inl (cI, 2, .inl (fun _ => 0))), (aq27, .inl (cI, 2, .inl (fun _ => 0))), (aq28, .inl (cI, 34, .inl (fun _ => 0))), (aq29, .inr (2, [.ref aq30, .ref aq31, .ref aq32])), (aq30, .inl (cI, 64, .inl (fun _ => 0))), (aq31, .inl (cI, 256, .inl (fun _ => 0))), (aq32, .inl (cI, 256, .inl (fun _ => 0))), (aq33, .inr (3, [.ref aq34, .ref aq36, .ref aq43, .ref aq44, .ref aq45, .ref aq46, .int 0, .int 0])), (aq34, .inr (6, [.ref aq35, .int 0])), (aq35, .inl (cI, 120, .inl (fun _ => 0))), (aq36, .inr (1, [.ref aq37, .ref aq38, .ref aq39, .ref aq40, .ref aq41, .ref aq42, .int 0, .int 65535, .int 0, .int 0, .int 0, .int 1])), (aq37, .inl (cI, 8, .inl (fun _ => 0))), (aq38, .inl (cI, 8, .inl (fun _ => 0))), (aq39, .inl (cI, 8, .inl (fun _ => 0))), (aq40, .inl (cI, 8, .inl (fun _ => 0))), (aq41, .inl (cI, 8, .inl (fun _ => 0))), (aq42, .inl (cI, 10, .inl (u.2.2.2))), (aq43, .inl (cI, 121, .inl (fun _ => 0))), (aq44, .inl (cI, 121, .inl (fun _ => 0))), (aq45, .inl (cI, 121, .inl (fun _ => 0))), (aq46, .inl (cI, 121, .inl (fun _ => 0))), (aq47, .inl (cS, 4, .inr (.inr (.inr (.inr (va_up (va_up (va_up (va_up (fun _ => none) 0 (some aq48)) 1 (some aq50)) 2 (some aq52)) 3 (some aq54))))))), (aq48, .inr (5, [.ref aq49, .int 0, .int 0])), (aq49, .inl (cI, 40, .inl (fun _ => 0))), (aq50, .inr (5, [.ref aq51, .int 0, .int 0])), (aq51, .inl (cI, 40, .inl (fun _ => 0))), (aq52, .inr (5, [.ref aq53, .int 0, .int 0])), (aq53, .inl (cI, 40, .inl (fun _ => 0))), (aq54, .inr (5, [.ref aq55, .int 0, .int 0])), (aq55, .inl (cI, 40, .inl (fun _ => 0))), (aq56, .inl (cI, 7, .inl (fun _ => 0))), (b0, .inr (8, [.null, .null, .null, .int 0, .null, .int 0, .int 0, .int 0, .int 0, .null, .null, .null, .int 0, .null, .null, .int 0, .int 0, .int 0, .int 0, .int 0, .int 0, .null, .null, .int 0, .int 0, .null, .null, .null, .null]))] := hD
  refine W.widen (k := 58) (n := 1729) (Nat.le_of_ble_eq_true rfl) (Nat.le_of_ble_eq_true rfl) ?_
  refine lv_dup hx hb dL_law_11 rfl ?_
  have hPc := hP.sub (ws' := [(b0, .inr (8, [.null, .null, .null, .int 0, .null, .int 0, .int 0, .int 0, .int 0, .null, .null, .null, .int 0, .null, .null, .int 0, .int 0, .int 0, .int 0, .int 0, .int 0, .null, .null, .int 0, .int 0, .null, .null, .null, .null]))]) [57] rfl
  have hDc := hD.sub (ws' := [(b0, .inr (8, [.null, .null, .null, .int 0, .null, .int 0, .int 0, .int 0, .int 0, .null, .null, .null, .int 0, .null, .null, .int 0, .int 0, .int 0, .int 0, .int 0, .int 0, .null, .null, .int 0, .int 0, .null, .null, .null, .null]))]) [57] (by decide) rfl
  have hFc := va_free (wc := [(b0, .inr (8, [.null, .null, .null, .int 0, .null, .int 0, .int 0, .int 0, .int 0, .null, .null, .null, .int 0, .null, .null, .int 0, .int 0, .int 0, .int 0, .int 0, .int 0, .null, .null, .int 0, .int 0, .null, .null, .null, .null]))]) hD hS hA [57] rfl
  have hVc : vk_S NS slen sbyt ek ev (va_A [(b0, .inr (8, [.null, .null, .null, .int 0, .null, .int 0, .int 0, .int 0, .int 0, .null, .null, .null, .int 0, .null, .null, .int 0, .int 0, .int 0, .int 0, .int 0, .int 0, .null, .null, .int 0, .int 0, .null, .null, .null, .null]))] H.size) s H := (hVS.kept (fun a h1 h2 => hS.2.1 a h1 h2)).narrow hFc
  refine va_callv (va_runI (As := []) (rest := [.ref b0]) ⟨hx, hb, hml, hown, hts⟩ (cin_X8 l dC dI cI ek ev b0 H.size) (cwI 0 hts gL_law_X8_init rfl rfl rfl (hts _ (List.mem_of_getElem? (i := 5) rfl)) (hts _ (List.mem_of_getElem? (i := 110) rfl)) (hts _ (List.mem_of_getElem? (i := 111) rfl)) rfl (by decide +kernel) ⟨Nat.le_of_ble_eq_true rfl, Nat.le_of_ble_eq_true rfl⟩) ⟨fun a U g mk q => by obtain ⟨q0, q1, qP, qK, qD, qX⟩ := q; exact ⟨q0, q1, qP, va_K.moved (u := U) (U := U.calling g mk a) (Vm.Alike.refl U.vm) qK, qD, ⟨⟨vk_S.moved (u := U) (U := U.calling g mk a) (Vm.Alike.refl U.vm) qX.1.1, fun w hw => vk_R.same (u := U) (U := U.calling g mk a) rfl (qX.1.2 w hw)⟩, va_AO.moved (u := U) (U := U.calling g mk a) (Vm.Alike.refl U.vm) qX.2⟩⟩, fun U hU hW => ⟨rfl, by rw [hU], by rw [hU]; exact hPc, va_K.moved hW.alike hK, hDc.weaken (fun _ _ _ _ => trivial), ⟨⟨by rw [hU]; exact vk_S.moved hW.alike hVc, fun w hw => vk_R.warm hW (hVR w hw)⟩, va_AO.moved hW.alike hO0⟩⟩⟩ rfl rfl hl.1 rfl (lv_room (Nat.le_of_ble_eq_true rfl)) dL_law_12 ⟨Nat.le_of_ble_eq_true rfl, Nat.le_of_ble_eq_true rfl⟩) hS (fun q _ h => hFc q h) hFc (fun fm t H1 locs ht hvm hw hB hz1 hk1 hS => ?_)
  obtain ⟨cT1, bq1, bq2, bq3, bq4, bq5, bq6, bq7, bq8, bq9, bq10, bq11, bq12, bq13, bq14, bq15, hP1, hK1, hD1⟩ := hB
  rw [ht] at hP1
  have eT : cT1 = cT := ao_eq hvm hKT.2 (hK1.2 1 _ rfl).2
  rw [eT] at hP1 hD1
  obtain ⟨hP, hD⟩ := va_join (wr := [(a0, .inr (7, [.ref aq1, .ref aq8, .ref aq15, .ref aq24, .ref aq29, .ref aq33, .ref aq34, .ref aq47, .ref aq56, .int 0])), (aq1, .inr (1, [.ref aq2, .ref aq3, .ref aq4, .ref aq5, .ref aq6, .ref aq7, .int 0, .int 65535, .int 0, .int 0, .int 0, .int 1])), (aq2, .inl (cI, 8, .inl (fun _ => 0))), (aq3, .inl (cI, 8, .inl (fun _ => 0))), (aq4, .inl (cI, 8, .inl (fun _ => 0))), (aq5, .inl (cI, 8, .inl (fun _ => 0))), (aq6, .inl (cI, 8, .inl (fun _ => 0))), (aq7, .inl (cI, 10, .inl (u.1))), (aq8, .inr (1, [.ref aq9, .ref aq10, .ref aq11, .ref aq12, .ref aq13, .ref aq14, .int 0, .int 65535, .int 0, .int 0, .int 0, .int 1])), (aq9, .inl (cI, 8, .inl (fun _ => 0))), (aq10, .inl (cI, 8, .inl (fun _ => 0))), (aq11, .inl (cI, 8, .inl (fun _ => 0))), (aq12, .inl (cI, 8, .inl (fun _ => 0))), (aq13, .inl (cI, 8, .inl (fun _ => 0))), (aq14, .inl (cI, 10, .inl (u.2.1))), (aq15, .inr (4, [.ref aq16, .ref aq23, .int 0, .int 0])), (aq16, .inr (1, [.ref aq17, .ref aq18, .ref aq19, .ref aq20, .ref aq21, .ref aq22, .int 0, .int 65535, .int 0, .int 0, .int 0, .int 1])), (aq17, .inl (cI, 8, .inl (fun _ => 0))), (aq18, .inl (cI, 8, .inl (fun _ => 0))), (aq19, .inl (cI, 8, .inl (fun _ => 0))), (aq20, .inl (cI, 8, .inl (fun _ => 0))), (aq21, .inl (cI, 8, .inl (fun _ => 0))), (aq22, .inl (cI, 10, .inl (u.2.2.1))), (aq23, .inl (cI, 16, .inl (fun _ => 0))), (aq24, .inr (0, [.ref aq25, .ref aq26, .ref aq27, .ref aq28, .int 0, .int 0])), (aq25, .inl (cI, 2, .inl (fun _ => 0))), (aq26, .inl (cI, 2, .inl (fun _ => 0))), (aq27, .inl (cI, 2, .inl (fun _ => 0))), (aq28, .inl (cI, 34, .inl (fun _ => 0))), (aq29, .inr (2, [.ref aq30, .ref aq31, .ref aq32])), (aq30, .inl (cI, 64, .inl (fun _ => 0))), (aq31, .inl (cI, 256, .inl (fun _ => 0))), (aq32, .inl (cI, 256, .inl (fun _ => 0))), (aq33, .inr (3, [.ref aq34, .ref aq36, .ref aq43, .ref aq44, .ref aq45, .ref aq46, .int 0, .int 0])), (aq34, .inr (6, [.ref aq35, .int 0])), (aq35, .inl (cI, 120, .inl (fun _ => 0))), (aq36, .inr (1, [.ref aq37, .ref aq38, .ref aq39, .ref aq40, .ref aq41, .ref aq42, .int 0, .int 65535, .int 0, .int 0, .int 0, .int 1])), (aq37, .inl (cI, 8, .inl (fun _ => 0))), (aq38, .inl (cI, 8, .inl (fun _ => 0))), (aq39, .inl (cI, 8, .inl (fun _ => 0))), (aq40, .inl (cI, 8, .inl (fun _ => 0))), (aq41, .inl (cI, 8, .inl (fun _ => 0))), (aq42, .inl (cI, 10, .inl (u.2.2.2))), (aq43, .inl (cI, 121, .inl (fun _ => 0))), (aq44, .inl (cI, 121, .inl (fun _ => 0))), (aq45, .inl (cI, 121, .inl (fun _ => 0))), (aq46, .inl (cI, 121, .inl (fun _ => 0))), (aq47, .inl (cS, 4, .inr (.inr (.inr (.inr (va_up (va_up (va_up (va_up (fun _ => none) 0 (some aq48)) 1 (some aq50)) 2 (some aq52)) 3 (some aq54))))))), (aq48, .inr (5, [.ref aq49, .int 0, .int 0])), (aq49, .inl (cI, 40, .inl (fun _ => 0))), (aq50, .inr (5, [.ref aq51, .int 0, .int 0])), (aq51, .inl (cI, 40, .inl (fun _ => 0))), (aq52, .inr (5, [.ref aq53, .int 0, .int 0])), (aq53, .inl (cI, 40, .inl (fun _ => 0))), (aq54, .inr (5, [.ref aq55, .int 0, .int 0])), (aq55, .inl (cI, 40, .inl (fun _ => 0))), (aq56, .inl (cI, 7, .inl (fun _ => 0)))]) (w1 := [(b0, .inr (8, [.ref bq1, .ref bq2, .ref bq3, .int 0, .ref bq4, .int 0, .int 0, .int 0, .int 0, .ref bq5, .ref bq6, .ref bq7, .int 0, .ref bq8, .ref bq9, .int 0, .int 0, .int 0, .int 0, .int 0, .int 0, .ref bq10, .ref bq11, .int 0, .int 0, .ref bq12, .ref bq13, .ref bq14, .ref bq15])), (bq1, .inl (cI, 56, .inl (fm))), (bq2, .inl (cI, 56, .inl (fun _ => 0))), (bq3, .inl (cI, 56, .inl (fun _ => 0))), (bq4, .inl (cI, 8, .inl (fun _ => 0))), (bq5, .inl (cI, 51, .inl (fun _ => 0))), (bq6, .inl (cI, 256, .inl (fun _ => 0))), (bq7, .inl (cI, 256, .inl (fun _ => 0))), (bq8, .inl (cI, 8, .inl (fun _ => 0))), (bq9, .inl (cI, 120, .inl (fun _ => 0))), (bq10, .inl (cT, 7, .inr (.inr (.inr (.inr (va_up (va_up (va_up (va_up (va_up (va_up (va_up (fun _ => none) 0 (some (ek 0))) 1 (some (ek 1))) 2 (some (ek 2))) 3 (some (ek 3))) 4 (some (ek 4))) 5 (some (ek 5))) 6 (some (ek 6)))))))), (bq11, .inl (cI, 480, .inl (fun _ => 0))), (bq12, .inl (cI, 4, .inl (fun _ => 0))), (bq13, .inl (cI, 4, .inl (fun _ => 0))), (bq14, .inl (cI, 160, .inl (fun _ => 0))), (bq15, .inl (cI, 40, .inl (fun _ => 0)))]) hP hD [57] [0, 1, 2, 3, 4, 5, 6, 7, 8, 9, 10, 11, 12, 13, 14, 15, 16, 17, 18, 19, 20, 21, 22, 23, 24, 25, 26, 27, 28, 29, 30, 31, 32, 33, 34, 35, 36, 37, 38, 39, 40, 41, 42, 43, 44, 45, 46, 47, 48, 49, 50, 51, 52, 53, 54, 55, 56] rfl rfl (by decide) (by decide) hk1 hFc hP1 hD1
  clear hP1 hD1 hK1 hPc hDc hFc hk1 hz1 ht hvm eT
  generalize H1 = H at hP hS ⊢
  have hP : va_P (dC, dI) vwCl (wsAd cI cS cT ek u fm a0 aq1 aq2 aq3 aq4 aq5 aq6 aq7 aq8 aq9 aq10 aq11 aq12 aq13 aq14 aq15 aq16 aq17 aq18 aq19 aq20 aq21 aq22 aq23 aq24 aq25 aq26 aq27 aq28 aq29 aq30 aq31 aq32 aq33 aq34 aq35 aq36 aq37 aq38 aq39 aq40 aq41 aq42 aq43 aq44 aq45 aq46 aq47 aq48 aq49 aq50 aq51 aq52 aq53 aq54 aq55 aq56 b0 bq1 bq2 bq3 bq4 bq5 bq6 bq7 bq8 bq9 bq10 bq11 bq12 bq13 bq14 bq15) H := hP
  have hD : va_D A (wsAd cI cS cT ek u fm a0 aq1 aq2 aq3 aq4 aq5 aq6 aq7 aq8 aq9 aq10 aq11 aq12 aq13 aq14 aq15 aq16 aq17 aq18 aq19 aq20 aq21 aq22 aq23 aq24 aq25 aq26 aq27 aq28 aq29 aq30 aq31 aq32 aq33 aq34 aq35 aq36 aq37 aq38 aq39 aq40 aq41 aq42 aq43 aq44 aq45 aq46 aq47 aq48 aq49 aq50 aq51 aq52 aq53 aq54 aq55 aq56 b0 bq1 bq2 bq3 bq4 bq5 bq6 bq7 bq8 bq9 bq10 bq11 bq12 bq13 bq14 bq15) := hD
  refine W.widen (k := 73) (n := 3291) (Nat.le_of_ble_eq_true rfl) (Nat.le_of_ble_eq_true rfl) ?_
  refine lv_astore_n (lv' := [(2, .ref b0), (1, .ref a0), (0, .ref b)]) hx hb dL_law_15 rfl hl (by decide) rfl (fun ls hl => ?_)
  refine lv_iconst (v := 0) hx hb dL_law_16 (by decide) ?_
  refine lv_istore_n (lv' := [(3, .int 0), (2, .ref b0), (1, .ref a0), (0, .ref b)]) hx hb dL_law_17 rfl hl (by decide) rfl (fun ls hl => ?_)
  obtain ⟨E, eDe, eIe, eSe, eTe, eKe, eVe, eUe, eA0, eA57, hWP, hOk, hAA⟩ := fir_all (ev := ev) (uu := uu) hP hD
  have hKK : KK E s := by
    unfold KK tysE
    rw [eDe, eIe, eSe, eTe]
    exact st_K3 hK hKS hKT
  have hSF : SF E s s.heap := by
    unfold SF
    rw [eUe, eKe, eVe]
    exact ⟨hZU.narrow hAA, hTU.narrow hAA, hVS.narrow hAA, hZC.narrow hAA, hZq.narrow hAA, hN, hVR⟩
  have hl : lv_has ls 4 [(3, .int (nI 0)), (0, .ref b), (1, .ref (eA E 0)), (2, .ref (eA E 57))] := by
    rw [eA0, eA57]
    exact ⟨hl.1, hl.2.1, fun q hq => hl.2.2 q (by
      simp only [List.mem_cons, List.not_mem_nil, or_false] at hq ⊢
      rcases hq with rfl | rfl | rfl | rfl
      · exact Or.inl rfl
      · exact Or.inr (Or.inr (Or.inr rfl))
      · exact Or.inr (Or.inr (Or.inl rfl))
      · exact Or.inr (Or.inl rfl))⟩
  subst hAe
  exact law_loop ⟨hx, hb, hr, hml, hown, hts, hX, hbl, hlk, hOk, hKK, hSF, fun q h => hA2 q (hAA q h), hL⟩ (L + 1) 0 (firM u fm) firS (Nat.zero_le _) (by omega) (fir_ac hu1) (fir_ar hw) fir_wf H locs ls hWP hS hl

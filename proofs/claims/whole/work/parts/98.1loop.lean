/-! the law's loop -/
theorem lw_cmp {q Ln : Nat} (hL : Ln ≤ 3072) (hq : q ≤ Ln) : (nI Ln - 6 < nI q) ↔ Ln < q + 6 := by
  by_cases h : 6 ≤ Ln
  · have e : nI Ln - 6 = nI (Ln - 6) := by
      have h1 := nI_add (Ln - 6) 6
      rw [Nat.sub_add_cancel h] at h1
      rw [← h1]
      have h2 : nI 6 = (6 : Int32) := rfl
      rw [h2, Int32.add_sub_cancel]
    rw [e, nI_ltI (by omega) (by omega)]
    omega
  · have hh : ∀ k, k < 6 → (nI k - 6).toInt < 0 := by decide +kernel
    have h0 := hh Ln (by omega)
    have h1 : (nI q).toInt = (q : Int) := nI_toInt (by omega)
    rw [Int32.lt_iff_toInt_lt, h1]
    constructor
    · intro _; omega
    · intro _; omega
set_option maxHeartbeats 1000000 in
theorem law_case {p : Program} {l : Launch} {e : Env} {s : State} {m : MethodId} {below : List Frame} {meth : Method} {c : Code} {b Ln : Nat} {xs : Nat → Int32} {E : EV} (C : LX p l s m meth c b Ln xs E) {q : Nat} {M : Mem} {S : Sta} (hc : q + 6 ≤ Ln) (hA : AC M S) (hR : AR M S) (hW : WFS S) (kk : ∀ (M1 : Mem) (S1 : Sta), AC M1 S1 → AR M1 S1 → WFS S1 → LW p l e s m below meth c b E M1 (nI q) 1468 []) : LW p l e s m below meth c b E M (nI q) 33 [.int (xs q &&& 63)] := by
  obtain ⟨k, hk, e1⟩ := pk_andE (xs q) (m := 63) 6 (by decide)
  rw [e1]
  by_cases h47 : k < 47
  · clear e1 hk
    revert k
    refine fa_s ?_ (lw_tab C (k := 46) (tgt := 1445) (by decide) ⟨1412, rfl, by decide⟩ (law_c46 C rfl hc hA hR hW kk))
    refine fa_s ?_ (lw_tab C (k := 45) (tgt := 1422) (by decide) ⟨1389, rfl, by decide⟩ (law_c45 C rfl hc hA hR hW kk))
    refine fa_s ?_ (lw_tab C (k := 44) (tgt := 1409) (by decide) ⟨1376, rfl, by decide⟩ (law_c44 C rfl hc hA hR hW kk))
    refine fa_s ?_ (lw_tab C (k := 43) (tgt := 1396) (by decide) ⟨1363, rfl, by decide⟩ (law_c43 C rfl hc hA hR hW kk))
    refine fa_s ?_ (lw_tab C (k := 42) (tgt := 1383) (by decide) ⟨1350, rfl, by decide⟩ (law_c42 C rfl hc hA hR hW kk))
    refine fa_s ?_ (lw_tab C (k := 41) (tgt := 1360) (by decide) ⟨1327, rfl, by decide⟩ (law_c41 C rfl hc hA hR hW kk))
    refine fa_s ?_ (lw_tab C (k := 40) (tgt := 1337) (by decide) ⟨1304, rfl, by decide⟩ (law_c40 C rfl hc hA hR hW kk))
    refine fa_s ?_ (lw_tab C (k := 39) (tgt := 1274) (by decide) ⟨1241, rfl, by decide⟩ (law_c39 C rfl hc hA hR hW kk))
    refine fa_s ?_ (lw_tab C (k := 38) (tgt := 1231) (by decide) ⟨1198, rfl, by decide⟩ (law_c38 C rfl hc hA hR hW kk))
    refine fa_s ?_ (lw_tab C (k := 37) (tgt := 1188) (by decide) ⟨1155, rfl, by decide⟩ (law_c37 C rfl hc hA hR hW kk))
    refine fa_s ?_ (lw_tab C (k := 36) (tgt := 1155) (by decide) ⟨1122, rfl, by decide⟩ (law_c36 C rfl hc hA hR hW kk))
    refine fa_s ?_ (lw_tab C (k := 35) (tgt := 1122) (by decide) ⟨1089, rfl, by decide⟩ (law_c35 C rfl hc hA hR hW kk))
    refine fa_s ?_ (lw_tab C (k := 34) (tgt := 1109) (by decide) ⟨1076, rfl, by decide⟩ (law_c34 C rfl hc hA hR hW kk))
    refine fa_s ?_ (lw_tab C (k := 33) (tgt := 1096) (by decide) ⟨1063, rfl, by decide⟩ (law_c33 C rfl hc hA hR hW kk))
    refine fa_s ?_ (lw_tab C (k := 32) (tgt := 1063) (by decide) ⟨1030, rfl, by decide⟩ (law_c32 C rfl hc hA hR hW kk))
    refine fa_s ?_ (lw_tab C (k := 31) (tgt := 1040) (by decide) ⟨1007, rfl, by decide⟩ (law_c31 C rfl hc hA hR hW kk))
    refine fa_s ?_ (lw_tab C (k := 30) (tgt := 1017) (by decide) ⟨984, rfl, by decide⟩ (law_c30 C rfl hc hA hR hW kk))
    refine fa_s ?_ (lw_tab C (k := 29) (tgt := 973) (by decide) ⟨940, rfl, by decide⟩ (law_c29 C rfl hc hA hR hW kk))
    refine fa_s ?_ (lw_tab C (k := 28) (tgt := 940) (by decide) ⟨907, rfl, by decide⟩ (law_c28 C rfl hc hA hR hW kk))
    refine fa_s ?_ (lw_tab C (k := 27) (tgt := 907) (by decide) ⟨874, rfl, by decide⟩ (law_c27 C rfl hc hA hR hW kk))
    refine fa_s ?_ (lw_tab C (k := 26) (tgt := 884) (by decide) ⟨851, rfl, by decide⟩ (law_c26 C rfl hc hA hR hW kk))
    refine fa_s ?_ (lw_tab C (k := 25) (tgt := 871) (by decide) ⟨838, rfl, by decide⟩ (law_c25 C rfl hc hA hR hW kk))
    refine fa_s ?_ (lw_tab C (k := 24) (tgt := 858) (by decide) ⟨825, rfl, by decide⟩ (law_c24 C rfl hc hA hR hW kk))
    refine fa_s ?_ (lw_tab C (k := 23) (tgt := 835) (by decide) ⟨802, rfl, by decide⟩ (law_c23 C rfl hc hA hR hW kk))
    refine fa_s ?_ (lw_tab C (k := 22) (tgt := 822) (by decide) ⟨789, rfl, by decide⟩ (law_c22 C rfl hc hA hR hW kk))
    refine fa_s ?_ (lw_tab C (k := 21) (tgt := 789) (by decide) ⟨756, rfl, by decide⟩ (law_c21 C rfl hc hA hR hW kk))
    refine fa_s ?_ (lw_tab C (k := 20) (tgt := 746) (by decide) ⟨713, rfl, by decide⟩ (law_c20 C rfl hc hA hR hW kk))
    refine fa_s ?_ (lw_tab C (k := 19) (tgt := 713) (by decide) ⟨680, rfl, by decide⟩ (law_c19 C rfl hc hA hR hW kk))
    refine fa_s ?_ (lw_tab C (k := 18) (tgt := 680) (by decide) ⟨647, rfl, by decide⟩ (law_c18 C rfl hc hA hR hW kk))
    refine fa_s ?_ (lw_tab C (k := 17) (tgt := 667) (by decide) ⟨634, rfl, by decide⟩ (law_c17 C rfl hc hA hR hW kk))
    refine fa_s ?_ (lw_tab C (k := 16) (tgt := 644) (by decide) ⟨611, rfl, by decide⟩ (law_c16 C rfl hc hA hR hW kk))
    refine fa_s ?_ (lw_tab C (k := 15) (tgt := 621) (by decide) ⟨588, rfl, by decide⟩ (law_c15 C rfl hc hA hR hW kk))
    refine fa_s ?_ (lw_tab C (k := 14) (tgt := 598) (by decide) ⟨565, rfl, by decide⟩ (law_c14 C rfl hc hA hR hW kk))
    refine fa_s ?_ (lw_tab C (k := 13) (tgt := 585) (by decide) ⟨552, rfl, by decide⟩ (law_c13 C rfl hc hA hR hW kk))
    refine fa_s ?_ (lw_tab C (k := 12) (tgt := 562) (by decide) ⟨529, rfl, by decide⟩ (law_c12 C rfl hc hA hR hW kk))
    refine fa_s ?_ (lw_tab C (k := 11) (tgt := 539) (by decide) ⟨506, rfl, by decide⟩ (law_c11 C rfl hc hA hR hW kk))
    refine fa_s ?_ (lw_tab C (k := 10) (tgt := 516) (by decide) ⟨483, rfl, by decide⟩ (law_c10 C rfl hc hA hR hW kk))
    refine fa_s ?_ (lw_tab C (k := 9) (tgt := 493) (by decide) ⟨460, rfl, by decide⟩ (law_c9 C rfl hc hA hR hW kk))
    refine fa_s ?_ (lw_tab C (k := 8) (tgt := 470) (by decide) ⟨437, rfl, by decide⟩ (law_c8 C rfl hc hA hR hW kk))
    refine fa_s ?_ (lw_tab C (k := 7) (tgt := 447) (by decide) ⟨414, rfl, by decide⟩ (law_c7 C rfl hc hA hR hW kk))
    refine fa_s ?_ (lw_tab C (k := 6) (tgt := 414) (by decide) ⟨381, rfl, by decide⟩ (law_c6 C rfl hc hA hR hW kk))
    refine fa_s ?_ (lw_tab C (k := 5) (tgt := 391) (by decide) ⟨358, rfl, by decide⟩ (law_c5 C rfl hc hA hR hW kk))
    refine fa_s ?_ (lw_tab C (k := 4) (tgt := 368) (by decide) ⟨335, rfl, by decide⟩ (law_c4 C rfl hc hA hR hW kk))
    refine fa_s ?_ (lw_tab C (k := 3) (tgt := 335) (by decide) ⟨302, rfl, by decide⟩ (law_c3 C rfl hc hA hR hW kk))
    refine fa_s ?_ (lw_tab C (k := 2) (tgt := 292) (by decide) ⟨259, rfl, by decide⟩ (law_c2 C rfl hc hA hR hW kk))
    refine fa_s ?_ (lw_tab C (k := 1) (tgt := 259) (by decide) ⟨226, rfl, by decide⟩ (law_c1 C rfl hc hA hR hW kk))
    refine fa_s ?_ (lw_tab C (k := 0) (tgt := 236) (by decide) ⟨203, rfl, by decide⟩ (law_c0 C rfl hc hA hR hW kk))
    exact fa_0
  · exact lw_tabO C (by omega) hk (kk M S hA hR hW)
theorem law_loop {p : Program} {l : Launch} {e : Env} {s : State} {m : MethodId} {below : List Frame} {meth : Method} {c : Code} {b Ln : Nat} {xs : Nat → Int32} {E : EV} (C : LX p l s m meth c b Ln xs E) : ∀ (n q : Nat) (M : Mem) (S : Sta), q ≤ Ln → Ln + 1 ≤ q + n → AC M S → AR M S → WFS S → LW p l e s m below meth c b E M (nI q) 18 [] := by
  intro n
  induction n with
  | zero => intro q M S h1 h2; omega
  | succ n ih =>
    intro q M S hq hn hA hR hW H locs ls hP hS hl
    have C9 := C
    obtain ⟨hx, hb, hr, hml, hown, hts, hX, hbl, hlk, hE, hK, hF, hAA, hLn⟩ := C9
    refine lv_iload_n hx hb dL_law_18 rfl (lv_at hl 0 rfl) ?_
    refine lv_aload_n hx hb dL_law_19 rfl (lv_at hl 1 rfl) ?_
    refine va_slen hx hb hX hbl (Nat.not_le.mpr hbl) hS dL_law_20 ?_
    refine lv_bipush (v := 6) hx hb dL_law_21 (by decide) ?_
    refine lv_isub hx hb dL_law_23 ?_
    refine lv_icmp_gt (tgt := 1474) hx hb dL_law_24 (by decide) (fun hgt => ?_) (fun hle => ?_)
    · exact lw_end C H locs ls hP hS hl
    · have hc : q + 6 ≤ Ln := Nat.not_lt.mp fun h => hle ((lw_cmp hLn hq).mpr h)
      refine lv_aload_n hx hb dL_law_27 rfl (lv_at hl 1 rfl) ?_
      refine lv_iload_n hx hb dL_law_28 rfl (lv_at hl 0 rfl) ?_
      refine va_sld hx hb hX hbl (Nat.not_le.mpr hbl) hS (vp_in_nI (show q < Ln by omega) (by omega)) dL_law_29 ?_
      rw [show (nI q).toNatClampNeg = q from nI_clamp (by omega)]
      refine lv_bipush (v := 63) hx hb dL_law_30 (by decide) ?_
      refine lv_iand hx hb dL_law_32 ?_
      refine law_case C hc hA hR hW (fun M1 S1 a1 a2 a3 H locs ls hP hS hl => ?_) H locs ls hP hS hl
      refine lv_iinc (i := 3) (k := 0) (v := nI (q + 6)) (lv' := [(3, .int (nI (q + 6))), (0, .ref b), (1, .ref (eA E 0)), (2, .ref (eA E 57))]) hx hb dL_law_1468 hl rfl (by rw [← nI_add]; rfl) (by decide) rfl (fun ls hl => ?_)
      refine lv_goto (tgt := 18) hx hb dL_law_1471 (by decide) ?_
      exact ih (q + 6) M1 S1 hc (by omega) a1 a2 a3 H locs ls hP hS hl

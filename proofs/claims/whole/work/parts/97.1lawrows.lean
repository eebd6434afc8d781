/-! the law's rows -/
def R_law : String := "SharedShadowLaw"
def lw_P (b : Addr) (xs : List Int32) (args : Array Value) (s : State) : Prop := args = #[.ref b] ∧ s.IntsAt b xs ∧ xs.length ≤ 3072 ∧ (Jvm.Cond.and given_1 narrow_1).before args s = true
def lw_Q (_ : Array Value) (s : State) (o : Outcome) (t : State) : Prop := o = .returned (some (.int 1)) ∧ Framed s o t [] 600000 7302250
def lw_Z (below : List Frame) (a : Array Value) (s : State) : State → Prop := fun t => ∃ o, t.status = .running ∧ Ended t below o ∧ lw_Q a s o t
/-- the law's own end, with 1 on the stack, nothing written that was there before, its room as the claim has it -/
theorem lw_ret {p : Program} {l : Launch} {e : Env} {s : State} {m : MethodId} {below : List Frame} {meth : Method} {c : Code} {b : Nat} (hx : p.tables.exec = Jvm.exec) (hb : c.code = code) (hr : meth.sig.returnType = ret) (hlocks : meth.locks = false) {pc : Nat} {H : Heap} {ls : Array Slot} (hdg : decode code pc = .ok (.ireturn, 1)) : W p l e room_1 s m #[Value.ref b] below meth c H [] 600000 7302250 (lw_Z below #[Value.ref b] s) (F0 m pc ls [.int 1]) := by
  intro T hT X
  obtain ⟨fs, hret, hrun, hended, hW, hframe⟩ := X.leave (v := some (.int 1)) (hlocks := hlocks) (fun h => by rw [hr] at h; cases h)
  have hmeth' : T.vm.method? m = some meth := X.method'
  refine ⟨T.setFrames fs, ?_, .returned (some (.int 1)), hrun, hended, rfl, ⟨_, rfl⟩, hW, hframe⟩
  jvm_step X.here [X.here.top, hx, hb, hdg, hmeth', hr, ret, narrow_b1]
  (try refine ⟨rfl, ?_⟩); (try refine ⟨rfl, ?_⟩)
  first | (intro acts; rw [hret _ acts rfl rfl rfl]) | rw [hret _ _ rfl rfl rfl]
  exact Steps.refl _
/-- what holds at the law's entry: the machine, the code, the tables' words (any of lw_tbl by 'hts w (by decide +kernel)'), the script of L ints xs at the cell b, what the Statement gives of the start (any of its parts by flat_of_before) -/
def lw_At (p : Program) (s : State) (m : MethodId) (meth : Method) (c : Code) (b L : Nat) (xs : Nat → Int32) : Prop :=
  p.tables.exec = Jvm.exec ∧ c.code = code ∧ meth.sig.returnType = ret ∧ c.maxLocals = 4 ∧ s.vm.findClass R_law = some m.cls ∧ (∀ w ∈ lw_tbl, w.before #[Value.ref b] s = true) ∧ va_X b L xs s s.heap ∧ b < s.heap.size ∧ meth.locks = false ∧ (Jvm.Cond.and given_1 narrow_1).before #[Value.ref b] s = true

/-- what stays, from the law's entry on -/
def LX (p : Program) (l : Launch) (s : State) (m : MethodId) (meth : Method) (c : Code) (b Ln : Nat) (xs : Nat → Int32) (E : EV) : Prop :=
  p.tables.exec = Jvm.exec ∧ c.code = code ∧ meth.sig.returnType = ret ∧ c.maxLocals = 4 ∧ s.vm.findClass R_law = some m.cls ∧ (∀ w ∈ wsL_law, w.before #[Value.ref b] s = true) ∧ va_X b Ln xs s s.heap ∧ b < s.heap.size ∧ meth.locks = false ∧ OkE E ∧ KK E s ∧ SF E s s.heap ∧ (∀ q, AA E q → s.heap.size ≤ q) ∧ Ln ≤ 3072
/-- from here the law comes to its end -/
def LW (p : Program) (l : Launch) (e : Env) (s : State) (m : MethodId) (below : List Frame) (meth : Method) (c : Code) (b : Nat) (E : EV) (M : Mem) (x3 : Int32) (pc : Nat) (st : List Value) : Prop :=
  ∀ (H : Heap) (locs : List Loc) (ls : Array Slot), WP E M H → va_S (fun q : Nat => s.heap.size ≤ q) s.heap H locs → lv_has ls 4 [(3, .int x3), (0, .ref b), (1, .ref (eA E 0)), (2, .ref (eA E 57))] → W p l e room_1 s m #[Value.ref b] below meth c H locs 73 3291 (lw_Z below #[Value.ref b] s) (F0 m pc ls st)
section LAWR
variable {p : Program} {l : Launch} {e : Env} {s : State} {m : MethodId} {below : List Frame} {meth : Method} {c : Code} {b Ln : Nat} {xs : Nat → Int32} {E : EV} {M : Mem} {x3 : Int32} {pc : Nat} {st : List Value}
theorem lw_al1 (C : LX p l s m meth c b Ln xs E) (hd : decode cL_law pc = .ok (.aload_n 1, 1)) (kk : LW p l e s m below meth c b E M x3 (pc + 1) (.ref (eA E 0) :: st)) : LW p l e s m below meth c b E M x3 pc st := by
  intro H locs ls hP hS hl
  exact lv_aload_n C.1 C.2.1 hd rfl (lv_at hl 2 rfl) (kk H locs ls hP hS hl)
theorem lw_al2 (C : LX p l s m meth c b Ln xs E) (hd : decode cL_law pc = .ok (.aload_n 2, 1)) (kk : LW p l e s m below meth c b E M x3 (pc + 1) (.ref (eA E 57) :: st)) : LW p l e s m below meth c b E M x3 pc st := by
  intro H locs ls hP hS hl
  exact lv_aload_n C.1 C.2.1 hd rfl (lv_at hl 3 rfl) (kk H locs ls hP hS hl)
theorem lw_arg (C : LX p l s m meth c b Ln xs E) {q j : Nat} {ji : Int} (hx3 : x3 = nI q) (hq : q + 6 ≤ Ln) (hj : j < 6) (hji : Int32.ofInt ji = nI j) (d0 : decode cL_law pc = .ok (.aload_n 0, 1)) (d1 : decode cL_law (pc + 1) = .ok (.iload_n 3, 1)) (d2 : decode cL_law (pc + 2) = .ok (.iconst ji, 1)) (d3 : decode cL_law (pc + 3) = .ok (.iadd, 1)) (d4 : decode cL_law (pc + 4) = .ok (.iaload, 1)) (kk : LW p l e s m below meth c b E M x3 (pc + 5) (.int (xs (q + j)) :: st)) : LW p l e s m below meth c b E M x3 pc st := by
  intro H locs ls hP hS hl
  obtain ⟨hx, hb, hr, hml, hown, hts, hX, hbl, hlk, hE, hK, hF, hA, hLn⟩ := C
  refine lv_aload_n hx hb d0 rfl (lv_at hl 1 rfl) ?_
  refine lv_iload_n hx hb d1 rfl (lv_at hl 0 rfl) ?_
  refine lv_iconst (v := nI j) hx hb d2 hji ?_
  refine lv_iadd hx hb d3 ?_
  have e1 : x3 + nI j = nI (q + j) := by rw [hx3, nI_add]
  rw [e1]
  refine va_sld hx hb hX hbl (Nat.not_le.mpr hbl) hS (vp_in_nI (show q + j < Ln by omega) (by omega)) d4 ?_
  rw [show (nI (q + j)).toNatClampNeg = q + j from nI_clamp (by omega)]
  exact kk H locs ls hP hS hl
theorem zl_go {E : EV} {A0 : Nat → Prop} {R : Room} {args : Array Value} {H : Heap} {locs : List Loc} {cells slots pc : Nat} {Q : State → Prop} {ls : Array Slot} {rest st0 : List Value} {a : Array Value} {v : Option Value} {M1 : Mem} (hr : va_Run p l e R s m args below meth c H locs cells slots 0 0 (F0 m pc ls st0) rest (QQ E v M1 a) (AA E)) (hA : ∀ q, AA E q → A0 q) (hS : va_S A0 s.heap H locs)
    (kk : ∀ (H1 : Heap) (locs1 : List Loc), WP E M1 H1 → va_S A0 s.heap H1 locs1 → W p l e R s m args below meth c H1 locs1 cells slots Q (F0 m (pc + 3) ls (v.toList ++ rest))) : W p l e R s m args below meth c H locs cells slots Q (F0 m pc ls st0) := by
  intro T hT X
  obtain ⟨v1, st₀, t, T', L, h0, X', hL, e1, e2, ⟨⟨hv, hp⟩, hz, hk⟩, st⟩ := hr T hT X
  cases hv
  rw [h0] at hz hk
  obtain ⟨t2, a1, b1⟩ := kk T'.heap (locs ++ L) (by rw [e1]; exact hp)
    ⟨Nat.le_trans hS.1 (by rw [e1]; exact hz), fun q h1 h2 => by rw [e1, hk q (Nat.lt_of_lt_of_le h1 hS.1) (fun h => h2 (hA q h))]; exact hS.2.1 q h1 h2, fun q hq => by
      rcases List.mem_append.mp hq with h | h
      · exact hS.2.2 q h
      · exact hA _ (hL q h)⟩ T' rfl X'
  exact ⟨t2, st t2 a1, b1⟩
theorem zl_B {A0 : Nat → Prop} {U : State} {H : Heap} {locs : List Loc} (hP : WP E M H) (hK : KK E s) (hF : SF E s s.heap) (hS : va_S A0 s.heap H locs) (hA0 : ∀ q, q < s.heap.size → ¬ A0 q) (hU : U.heap = H) (hW : s.WarmedH U.vm) : WB E M U := ⟨by rw [hU]; exact hP, va_K.moved hW.alike hK, by rw [hU]; exact SF.warm hW (hF.kept (fun a h1 _ => hS.2.1 a h1 (hA0 a h1)))⟩
theorem lw_call {ρ : Type} {vl : ρ → Option Value} {M1 : Mem} {r1 : ρ} {fo : Option (ρ × Mem)} {y : MethodName} {bytes : ByteArray} {maxL n index k0 ci : Nat} {retC : Option FieldType} {wsC wsC1 : List Cond} {rmC : Room} {As st0 : List Value} {fs : List (Option Nat)} {q : vw_C} (C : LX p l s m meth c b Ln xs E) (hb0 : k0 < NC) (hlay : lay k0 = (0, ci, fs)) (hc : vwCl[ci]? = some q) (hG : GoodIn wsL_law (wsV RL index q.1 y wsC)) (hw : wsC = Cond.code y bytes maxL retC :: wsC1) (hrc : rmC.cells = 0) (hrs : rmC.slots = 0) (hy : y.cls = q.1 ∧ y.cls ≠ "java/lang/invoke/MethodHandle" ∧ y.cls ≠ "java/lang/invoke/VarHandle" ∧ (parseMethodDescriptor y.desc).map (fun d => d.parameters.length) = some n) (hR : rmC.frames + 1 ≤ room_1.frames ∧ 8 + (maxL + 11) + rmC.locals ≤ room_1.locals) (hnn : As.length = n) (hst : st0 = As.reverse ++ .ref (eA E k0) :: st) (hcat : (st.map fun v => v.category).sum ≤ 8) (hM : CT E l y wsC rmC vl (.ref (eA E k0) :: As) fo M) (hfo : fo = some (r1, M1)) (hd : decode cL_law pc = .ok (.invokevirtual index, 3)) (kk : LW p l e s m below meth c b E M1 x3 (pc + 3) ((vl r1).toList ++ st)) : LW p l e s m below meth c b E M x3 pc st0 := by
  intro H locs ls hP hS hl
  obtain ⟨hx, hb, hr, hml, hown, hts, hX, hbl, hlk, hE, hK, hF, hA, hLn⟩ := C
  refine zl_go (rest := st) (va_runV (As := As) (rest := st) ⟨hx, hb, hml, hown, hts⟩ (hM hE r1 M1 hfo) (cwV n hts hG hw hrc hrs hy hR) ⟨WB.blind, va_recv (ci := ci) hK hP hc (by rw [ws_get E M hb0, cE_obj E M hlay]), fun U hU hW => ⟨rfl, zl_B hP hK hF hS (fun q h1 h2 => absurd h1 (Nat.not_lt.mpr h2)) hU hW⟩⟩ rfl hnn hl.1 hst (lv_room hcat) hd ⟨Nat.le_of_ble_eq_true rfl, Nat.le_of_ble_eq_true rfl⟩) hA hS (fun H1 locs1 hP1 hS1 => ?_)
  exact kk H1 locs1 ls hP1 hS1 hl
theorem lw_eq (C : LX p l s m meth c b Ln xs E) {r : Int32} {off : Int} (hd : decode cL_law pc = .ok (.if_icmp .eq off, 3)) (ht : (pc : Int) + off = ((1468 : Nat) : Int)) (kk : LW p l e s m below meth c b E M x3 1468 []) : LW p l e s m below meth c b E M x3 pc [.int r, .int r] := by
  intro H locs ls hP hS hl
  exact lv_icmp_eq C.1 C.2.1 hd ht (fun _ => kk H locs ls hP hS hl) (fun h => absurd rfl h)
theorem lw_eql (C : LX p l s m meth c b Ln xs E) {r : Int64} {off : Int} (hd : decode cL_law pc = .ok (.lcmp, 1)) (hd2 : decode cL_law (pc + 1) = .ok (.ifCond .eq off, 3)) (ht : ((pc + 1 : Nat) : Int) + off = ((1468 : Nat) : Int)) (kk : LW p l e s m below meth c b E M x3 1468 []) : LW p l e s m below meth c b E M x3 pc [.long r, .long r] := by
  intro H locs ls hP hS hl
  refine W.lcmp C.1 C.2.1 hd ?_
  have z : lg_cmp r r = 0 := by
    unfold lg_cmp
    simp
  rw [z]
  exact lv_if_eq C.1 C.2.1 hd2 ht (fun _ => kk H locs ls hP hS hl) (fun h => absurd rfl h)
theorem lw_end (C : LX p l s m meth c b Ln xs E) : LW p l e s m below meth c b E M x3 1474 [] := by
  intro H locs ls hP hS hl
  obtain ⟨hx, hb, hr, hml, hown, hts, hX, hbl, hlk, hE, hK, hF, hA, hLn⟩ := C
  refine lv_iconst (v := 1) hx hb dL_law_1474 (by decide) ?_
  refine va_forget (fun q hq => hS.2.2 q hq) ?_
  refine W.widen (k := 600000) (n := 7302250) (Nat.le_of_ble_eq_true rfl) (Nat.le_of_ble_eq_true rfl) ?_
  exact lw_ret hx hb hr hlk dL_law_1475
theorem lw_tab (C : LX p l s m meth c b Ln xs E) {k tgt : Nat} (hk : k < 47) (ht : ∃ off : Int, (#[203, 226, 259, 302, 335, 358, 381, 414, 437, 460, 483, 506, 529, 552, 565, 588, 611, 634, 647, 680, 713, 756, 789, 802, 825, 838, 851, 874, 907, 940, 984, 1007, 1030, 1063, 1076, 1089, 1122, 1155, 1198, 1241, 1304, 1327, 1350, 1363, 1376, 1389, 1412] : Array Int)[k]? = some off ∧ (33 : Int) + off = (tgt : Int)) (kk : LW p l e s m below meth c b E M x3 tgt []) : LW p l e s m below meth c b E M x3 33 [.int (nI k)] := by
  intro H locs ls hP hS hl
  obtain ⟨off, h1, h2⟩ := ht
  have e1 : (nI k).toInt = (k : Int) := nI_toInt (by omega)
  exact lv_tableIn C.1 C.2.1 dL_law_33 (by rw [e1]; omega) (by rw [e1]; omega) (by rw [e1, Int.sub_zero, Int.toNat_natCast]; exact h1) h2 (kk H locs ls hP hS hl)
theorem lw_tabO (C : LX p l s m meth c b Ln xs E) {k : Nat} (hk : 47 ≤ k) (hk2 : k < 64) (kk : LW p l e s m below meth c b E M x3 1468 []) : LW p l e s m below meth c b E M x3 33 [.int (nI k)] := by
  intro H locs ls hP hS hl
  have e1 : (nI k).toInt = (k : Int) := nI_toInt (by omega)
  exact lv_tableOut C.1 C.2.1 dL_law_33 (Or.inr (by rw [e1]; omega)) (tgt := 1468) (by decide) (kk H locs ls hP hS hl)
end LAWR

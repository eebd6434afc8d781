/-! the one world: cells, what they hold, the judgement ZZ and its rows -/
abbrev Mem : Type := Nat → Nat → Int32
abbrev EV : Type := va_G × (Nat → Nat) × (ClassId × ClassId × ClassId) × (Nat → Nat) × (Nat → Nat) × Nat
abbrev eD (E : EV) : va_G := E.1
def eA (E : EV) : Nat → Nat := E.2.1
def eI (E : EV) : ClassId := E.2.2.1.1
def eS (E : EV) : ClassId := E.2.2.1.2.1
def eT (E : EV) : ClassId := E.2.2.1.2.2
def eK (E : EV) : Nat → Nat := E.2.2.2.1
def eV (E : EV) : Nat → Nat := E.2.2.2.2.1
def eU (E : EV) : Nat := E.2.2.2.2.2
abbrev NC : Nat := 73
def layL : List (Nat × Nat × List (Option Nat)) := [(0, 7, [some 1, some 8, some 15, some 24, some 29, some 33, some 34, some 47, some 56, none]), (0, 1, [some 2, some 3, some 4, some 5, some 6, some 7, none, none, none, none, none, none]), (1, 8, []), (1, 8, []), (1, 8, []), (1, 8, []), (1, 8, []), (1, 10, []), (0, 1, [some 9, some 10, some 11, some 12, some 13, some 14, none, none, none, none, none, none]), (1, 8, []), (1, 8, []), (1, 8, []), (1, 8, []), (1, 8, []), (1, 10, []), (0, 4, [some 16, some 23, none, none]), (0, 1, [some 17, some 18, some 19, some 20, some 21, some 22, none, none, none, none, none, none]), (1, 8, []), (1, 8, []), (1, 8, []), (1, 8, []), (1, 8, []), (1, 10, []), (1, 16, []), (0, 0, [some 25, some 26, some 27, some 28, none, none]), (1, 2, []), (1, 2, []), (1, 2, []), (1, 34, []), (0, 2, [some 30, some 31, some 32]), (1, 64, []), (1, 256, []), (1, 256, []), (0, 3, [some 34, some 36, some 43, some 44, some 45, some 46, none, none]), (0, 6, [some 35, none]), (1, 120, []), (0, 1, [some 37, some 38, some 39, some 40, some 41, some 42, none, none, none, none, none, none]), (1, 8, []), (1, 8, []), (1, 8, []), (1, 8, []), (1, 8, []), (1, 10, []), (1, 121, []), (1, 121, []), (1, 121, []), (1, 121, []), (2, 4, []), (0, 5, [some 49, none, none]), (1, 40, []), (0, 5, [some 51, none, none]), (1, 40, []), (0, 5, [some 53, none, none]), (1, 40, []), (0, 5, [some 55, none, none]), (1, 40, []), (1, 7, []), (0, 8, [some 58, some 59, some 60, none, some 61, none, none, none, none, some 62, some 63, some 64, none, some 65, some 66, none, none, none, none, none, none, some 67, some 68, none, none, some 69, some 70, some 71, some 72]), (1, 56, []), (1, 56, []), (1, 56, []), (1, 8, []), (1, 51, []), (1, 256, []), (1, 256, []), (1, 8, []), (1, 120, []), (3, 7, []), (1, 480, []), (1, 4, []), (1, 4, []), (1, 160, []), (1, 40, [])]
def lay (k : Nat) : Nat × Nat × List (Option Nat) := layL.getD k (9, 0, [])
/-- the kinds' words, by the strings' numbers -/
def kst (i : Nat) : Nat := i
def fv (E : EV) (M : Mem) (k i : Nat) (r : Option Nat) : Value := match r with
  | some j => .ref (eA E j)
  | none => .int (M k i)
def cE (E : EV) (M : Mem) (k : Nat) : va_E := match lay k with
  | (0, ci, fs) => .inr (ci, fs.mapIdx (fv E M k))
  | (1, n, _) => .inl (eI E, n, .inl (M k))
  | (2, n, _) => .inl (eS E, n, .inr (.inr (.inr (.inr (fun i => some (eA E (48 + 2 * i)))))))
  | (_, n, _) => .inl (eT E, n, .inr (.inr (.inr (.inr (fun i => some (eK E (kst i)))))))
def wsL (E : EV) (M : Mem) : va_W := (List.range NC).map (fun k => (eA E k, cE E M k))
abbrev tysE (E : EV) : List (ClassId × FieldType) := [(eI E, .int), (eS E, .object "SharedShadow$Sheet"), (eT E, .object "java/lang/String")]
def WP (E : EV) (M : Mem) (H : Heap) : Prop := va_P (eD E) vwCl (wsL E M) H
def KK (E : EV) (s : State) : Prop := va_K (eD E) vwCl (tysE E) s
def AA (E : EV) : Nat → Prop := fun q => ∃ k, k < NC ∧ q = eA E k
def OkE (E : EV) : Prop := ∀ i j, i < NC → j < NC → eA E i = eA E j → i = j
def wr (M : Mem) (b i : Nat) (v : Int32) : Mem := fun k => if k = b then upd (M b) i v else M k
def wrow (M : Mem) (b : Nat) (f : Nat → Int32) : Mem := fun k => if k = b then f else M k
theorem wr_b (M : Mem) (b i : Nat) (v : Int32) : wr M b i v b = upd (M b) i v := if_pos rfl
theorem wr_n (M : Mem) (b i : Nat) (v : Int32) {k : Nat} (h : k ≠ b) : wr M b i v k = M k := if_neg h
theorem wrow_b (M : Mem) (b : Nat) (f : Nat → Int32) : wrow M b f b = f := if_pos rfl
theorem wrow_n (M : Mem) (b : Nat) (f : Nat → Int32) {k : Nat} (h : k ≠ b) : wrow M b f k = M k := if_neg h
theorem cE_congr (E : EV) {M M' : Mem} {k : Nat} (h : M' k = M k) : cE E M' k = cE E M k := by
  have hf : fv E M' k = fv E M k := by
    funext i r
    cases r with
    | none => simp only [fv, h]
    | some j => rfl
  unfold cE
  rw [h, hf]
theorem ws_get (E : EV) (M : Mem) {k : Nat} (hk : k < NC) : (wsL E M)[k]? = some (eA E k, cE E M k) := by
  simp [wsL, List.getElem?_range hk]
theorem ws_len (E : EV) (M : Mem) : (wsL E M).length = NC := by simp [wsL]
theorem ws_set (E : EV) {M M' : Mem} {k : Nat} (hk : k < NC) {e : va_E} (he : e = cE E M' k) (hne : ∀ j, j ≠ k → M' j = M j) : (wsL E M).set k (eA E k, e) = wsL E M' := by
  apply List.ext_getElem?
  intro j
  by_cases hj : j < NC
  · by_cases hjk : j = k
    · subst hjk
      rw [List.getElem?_set_self (by rw [ws_len]; exact hj), ws_get E M' hj, he]
    · rw [List.getElem?_set_ne (Ne.symm hjk), ws_get E M hj, ws_get E M' hj, cE_congr E (hne j hjk)]
  · rw [List.getElem?_eq_none (by rw [List.length_set, ws_len]; omega), List.getElem?_eq_none (by rw [ws_len]; omega)]
theorem cE_obj (E : EV) (M : Mem) {k ci : Nat} {fs : List (Option Nat)} (h : lay k = (0, ci, fs)) : cE E M k = .inr (ci, fs.mapIdx (fv E M k)) := by
  unfold cE; rw [h]; rfl
theorem cE_row (E : EV) (M : Mem) {k n : Nat} (h : lay k = (1, n, [])) : cE E M k = .inl (eI E, n, .inl (M k)) := by
  unfold cE; rw [h]; rfl
theorem cE_sh (E : EV) (M : Mem) {k n : Nat} (h : lay k = (2, n, [])) : cE E M k = .inl (eS E, n, .inr (.inr (.inr (.inr (fun i => some (eA E (48 + 2 * i))))))) := by
  unfold cE; rw [h]; rfl
theorem cE_st (E : EV) (M : Mem) {k n : Nat} (h : lay k = (3, n, [])) : cE E M k = .inl (eT E, n, .inr (.inr (.inr (.inr (fun i => some (eK E (kst i))))))) := by
  unfold cE; rw [h]; rfl
theorem ws_put (E : EV) (M : Mem) {k ci i : Nat} {fs : List (Option Nat)} (hk : k < NC) (h : lay k = (0, ci, fs)) (hi : fs[i]? = some none) (v : Int32) : (wsL E M).set k (eA E k, .inr (ci, (fs.mapIdx (fv E M k)).set i (.int v))) = wsL E (wr M k i v) := by
  refine ws_set E hk ?_ (fun j hj => wr_n M k i v hj)
  rw [cE_obj E _ h]
  congr 2
  apply List.ext_getElem?
  intro j
  rw [List.getElem?_mapIdx]
  by_cases hj : j = i
  · subst hj
    have hl : j < (fs.mapIdx (fv E M k)).length := by rw [List.length_mapIdx]; exact (List.getElem?_eq_some_iff.mp hi).1
    rw [List.getElem?_set_self hl, hi]
    simp [fv, wr_b, upd]
  · rw [List.getElem?_set_ne (Ne.symm hj), List.getElem?_mapIdx]
    cases fs[j]? with
    | none => rfl
    | some r => cases r with
      | none => simp [fv, wr_b, upd, hj]
      | some q => rfl
theorem ws_row (E : EV) (M : Mem) {k n : Nat} (hk : k < NC) (h : lay k = (1, n, [])) (f : Nat → Int32) : (wsL E M).set k (eA E k, .inl (eI E, n, .inl f)) = wsL E (wrow M k f) := by
  refine ws_set E hk ?_ (fun j hj => wrow_n M k f hj)
  rw [cE_row E _ h, wrow_b]
theorem wrow_upd (M : Mem) (b i : Nat) (v : Int32) : wrow M b (upd (M b) i v) = wr M b i v := rfl
theorem ws_D (E : EV) (hE : OkE E) (M : Mem) : va_D (AA E) (wsL E M) := by
  have key : ∀ (k : Nat) (q : Nat × va_E), (wsL E M)[k]? = some q → k < NC ∧ q.1 = eA E k := by
    intro k q h
    have hk : k < NC := by rw [← ws_len E M]; exact (List.getElem?_eq_some_iff.mp h).1
    rw [ws_get E M hk] at h
    cases h
    exact ⟨hk, rfl⟩
  refine ⟨fun i j x y hi hj hxy => ?_, fun k q hk => ?_⟩
  · obtain ⟨h1, h2⟩ := key i x hi
    obtain ⟨h3, h4⟩ := key j y hj
    exact hE i j h1 h3 (by rw [← h2, ← h4]; exact hxy)
  · obtain ⟨h1, h2⟩ := key k q hk
    exact ⟨k, h1, h2⟩

/-! what the tables and the constants say, carried along -/
def nestL : List (String × Nat × MethodName × String) := [("SharedShadow", 21, ⟨"SharedShadow$Rest", "<init>", "()V"⟩, "SharedShadow"), ("SharedShadow", 28, ⟨"SharedShadow$Agreement", "<init>", "()V"⟩, "SharedShadow"), ("SharedShadow", 35, ⟨"SharedShadow$Pairings", "<init>", "()V"⟩, "SharedShadow"), ("SharedShadow", 42, ⟨"SharedShadow$Reader", "<init>", "()V"⟩, "SharedShadow"), ("SharedShadow$Reader", 11, ⟨"SharedShadow$Tape", "<init>", "()V"⟩, "SharedShadow"), ("SharedShadow", 66, ⟨"SharedShadow$Sheet", "<init>", "()V"⟩, "SharedShadow"), ("SharedShadow$Land", 90, ⟨"SharedShadow", "bit", "(II)I"⟩, "SharedShadow"), ("SharedShadow$Rest", 53, ⟨"SharedShadow", "bit", "(II)I"⟩, "SharedShadow"), ("SharedShadow$Agreement", 63, ⟨"SharedShadow", "bit", "(II)I"⟩, "SharedShadow"), ("SharedShadow$Agreement", 66, ⟨"SharedShadow", "isWithin", "(II)Z"⟩, "SharedShadow"), ("SharedShadow$Pairings", 21, ⟨"SharedShadow", "isWithin", "(II)Z"⟩, "SharedShadow"), ("SharedShadow$Pairings", 49, ⟨"SharedShadow", "bit", "(II)I"⟩, "SharedShadow"), ("SharedShadow$Reader", 145, ⟨"SharedShadow", "isWithin", "(II)Z"⟩, "SharedShadow"), ("SharedShadow$Land", 72, ⟨"SharedShadow", "isWithin", "(II)Z"⟩, "SharedShadow"), ("SharedShadow$Sheet", 31, ⟨"SharedShadow", "isWithin", "(II)Z"⟩, "SharedShadow")]
def srefL : List (String × Nat × String × Nat) := [("SharedShadow$Reader", 163, "person", 0), ("SharedShadow$Reader", 165, "strong", 1), ("SharedShadow$Reader", 167, "old", 2), ("SharedShadow$Reader", 169, "lender", 3), ("SharedShadow$Reader", 171, "beggar", 4), ("SharedShadow$Reader", 173, "twin", 5), ("SharedShadow$Reader", 175, "duellist", 6), ("SharedShadow$Reader", 129, "sun", 7), ("SharedShadow$Reader", 137, "strength", 8), ("SharedShadow$Reader", 141, "needs", 9), ("SharedShadow$Reader", 95, "share", 10), ("SharedShadow$Reader", 104, "light", 11), ("SharedShadow$Reader", 109, "hour", 12), ("SharedShadowModel", 39, "person", 0), ("SharedShadowModel", 41, "strong", 1), ("SharedShadowModel", 43, "old", 2), ("SharedShadowModel", 45, "lender", 3), ("SharedShadowModel", 47, "beggar", 4), ("SharedShadowModel", 49, "twin", 5), ("SharedShadowModel", 51, "duellist", 6), ("SharedShadowModel", 309, "sun", 7), ("SharedShadowModel", 314, "strength", 8), ("SharedShadowModel", 316, "needs", 9), ("SharedShadowModel", 322, "share", 10), ("SharedShadowModel", 327, "light", 11), ("SharedShadowModel", 329, "hour", 12)]
def slen : List Nat := [6, 6, 3, 6, 6, 4, 8, 3, 8, 5, 5, 5, 4]
def sbyt : List (List Int32) := [[112, 101, 114, 115, 111, 110], [115, 116, 114, 111, 110, 103], [111, 108, 100], [108, 101, 110, 100, 101, 114], [98, 101, 103, 103, 97, 114], [116, 119, 105, 110], [100, 117, 101, 108, 108, 105, 115, 116], [115, 117, 110], [115, 116, 114, 101, 110, 103, 116, 104], [110, 101, 101, 100, 115], [115, 104, 97, 114, 101], [108, 105, 103, 104, 116], [104, 111, 117, 114]]
abbrev NS : Nat := 13
def und (j : Nat) : Int32 := ([-1, 0, 0, 2, 3, 0, 1] : List Int32).getD j 0
def SF (E : EV) (s : State) (H : Heap) : Prop :=
  va_Z "SharedShadow$Land" "UNDER" "[I" (.ref (eU E)) (AA E) s H ∧ va_T .int (eU E) 7 (fun j => .int (und j)) (AA E) s H ∧ vk_S NS slen sbyt (eK E) (eV E) (AA E) s H ∧ va_Z "java/lang/String" "COMPACT_STRINGS" "Z" (.int 1) (AA E) s H ∧ va_Zq "jdk/internal/util/Preconditions" "SIOOBE_FORMATTER" "Ljava/util/function/BiFunction;" (AA E) s H ∧ (∀ q ∈ nestL, va_Nw (.methodLinkNest q.1 q.2.1 q.2.2.1 q.2.2.2) s) ∧ (∀ q ∈ srefL, vk_R q.1 q.2.1 q.2.2.1 (eK E q.2.2.2) s)
theorem SF.blind {E : EV} {U : State} {H : Heap} {g : JFrame} {mk : MethodId} {a : Array Value} (h : SF E U H) : SF E (U.calling g mk a) H := by
  obtain ⟨h1, h2, h3, h4, h5, h6, h7⟩ := h
  exact ⟨va_Z.moved (U := U.calling g mk a) (Vm.Alike.refl U.vm) h1, va_T.moved (U := U.calling g mk a) (Vm.Alike.refl U.vm) h2, vk_S.moved (U := U.calling g mk a) (Vm.Alike.refl U.vm) h3, va_Z.moved (U := U.calling g mk a) (Vm.Alike.refl U.vm) h4, va_Zq.moved (U := U.calling g mk a) (Vm.Alike.refl U.vm) h5, fun q hq => va_Nw.same rfl (rfl : U.vm = (U.calling g mk a).vm) (h6 q hq), fun q hq => vk_R.same (rfl : (U.calling g mk a).vm = U.vm) (h7 q hq)⟩
theorem SF.warm {E : EV} {s U : State} {H : Heap} (hW : s.WarmedH U.vm) (h : SF E s H) : SF E U H := by
  obtain ⟨h1, h2, h3, h4, h5, h6, h7⟩ := h
  exact ⟨va_Z.moved hW.alike h1, va_T.moved hW.alike h2, vk_S.moved hW.alike h3, va_Z.moved hW.alike h4, va_Zq.moved hW.alike h5, fun q hq => va_Nw.warmM hW (h6 q hq), fun q hq => vk_R.warm hW (h7 q hq)⟩
theorem SF.kept {E : EV} {s : State} {H H1 : Heap} (h : SF E s H) (hq : ∀ a : Nat, a < H.size → ¬ AA E a → H1[a]? = H[a]?) : SF E s H1 := by
  obtain ⟨h1, h2, h3, h4, h5, h6, h7⟩ := h
  exact ⟨h1.kept hq, h2.kept hq, h3.kept hq, h4.kept hq, h5.kept hq, h6, h7⟩
def WB (E : EV) (M : Mem) (U : State) : Prop := WP E M U.heap ∧ KK E U ∧ SF E U U.heap
theorem WB.blind {E : EV} {M : Mem} {vs : List Value} : FrameBlind (va_Pc vs (WB E M)) := fun a U g mk h => ⟨h.1, h.2.1, va_K.moved (u := U) (U := U.calling g mk a) (Vm.Alike.refl U.vm) h.2.2.1, SF.blind (H := U.heap) h.2.2.2⟩
def QQ (E : EV) (v : Option Value) (M' : Mem) : Array Value → State → Outcome → State → Prop := fun _ st oc t => (oc = .returned v ∧ WP E M' t.heap) ∧ va_F (AA E) st t
def CT {ρ : Type} (E : EV) (l : Launch) (y : MethodName) (ws : List Cond) (rm : Room) (vl : ρ → Option Value) (vs : List Value) (o : Option (ρ × Mem)) (M : Mem) : Prop := OkE E → ∀ (r : ρ) (M' : Mem), o = some (r, M') → Met l y ws rm (va_Pc vs (WB E M)) (QQ E (vl r) M') 0 0 (AA E)
def ZC (E : EV) (own : String) (cc : ByteArray) (nL : Nat) (ret : Option FieldType) (ws : List Cond) (p : Program) (s : State) (m : MethodId) (args : Array Value) (meth : Method) (c : Code) : Prop := p.tables.exec = Jvm.exec ∧ c.code = cc ∧ meth.sig.returnType = ret ∧ c.maxLocals = nL ∧ s.vm.findClass own = some m.cls ∧ (∀ w ∈ ws, w.before args s = true) ∧ meth.locks = false ∧ OkE E ∧ KK E s ∧ SF E s s.heap
/-- from the frame at pc the method comes to the end that o tells -/
def ZZ {ρ : Type} (E : EV) (l : Launch) (own : String) (cc : ByteArray) (nL : Nat) (ret : Option FieldType) (ws : List Cond) (rm : Room) (vl : ρ → Option Value) (o : Option (ρ × Mem)) (M : Mem) (lv : List (Nat × Value)) (pc : Nat) (st : List Value) : Prop :=
  ∀ (p : Program) (e : Env) (s : State) (m : MethodId) (args : Array Value) (below : List Frame) (meth : Method) (c : Code) (H : Heap) (locs : List Loc) (ls : Array Slot) (r : ρ) (M' : Mem),
    ZC E own cc nL ret ws p s m args meth c → o = some (r, M') → WP E M H → va_S (AA E) s.heap H locs → lv_has ls nL lv →
    W p l e rm s m args below meth c H locs 0 0 (MQ below (QQ E (vl r) M') args s 0 0 (AA E)) (F0 m pc ls st)
def vI (r : Int32) : Option Value := some (.int r)
def vL (r : Int64) : Option Value := some (.long r)
def vV (_ : Unit) : Option Value := none
def ck {α : Type} (b : Bool) (x : Option α) : Option α := if b = true then x else none
def bd {ρ α : Type} (x : Option (ρ × Mem)) (k : ρ → Mem → Option α) : Option α := match x with
  | none => none
  | some q => k q.1 q.2
theorem ck_some {α : Type} {b : Bool} {x : Option α} {y : α} (h : ck b x = some y) : b = true ∧ x = some y := by
  unfold ck at h
  by_cases hb : b = true
  · rw [if_pos hb] at h; exact ⟨hb, h⟩
  · rw [if_neg hb] at h; cases h
theorem ck_t {α : Type} {b : Bool} {x : Option α} (h : b = true) : ck b x = x := if_pos h
theorem bd_s {ρ α : Type} {k : ρ → Mem → Option α} (r : ρ) (M : Mem) : bd (some (r, M)) k = k r M := rfl
def ix (i : Int32) : Nat := i.toNatClampNeg
def inb (i : Int32) (n : Nat) : Bool := decide (¬ (i < 0 ∨ n ≤ ix i))
theorem inb_in {i : Int32} {n : Nat} (h : inb i n = true) : vp_in i n := of_decide_eq_true (p := ¬ (i < 0 ∨ n ≤ ix i)) h
def isb (v : Int32) : Bool := decide (v = 0 ∨ v = 1)
def irm (x y : Int32) : Int32 := x - x / y * y
def shl (x y : Int32) : Int32 := x <<< (y &&& 31)
def shr (x y : Int32) : Int32 := x >>> (y &&& 31)
def ush (x y : Int32) : Int32 := (x.toUInt32 >>> (y.toUInt32 &&& Int32.toUInt32 31)).toInt32
def i2b (x : Int32) : Int32 := x.toInt8.toInt32
def i2s (x : Int32) : Int32 := x.toInt16.toInt32
def fu : Nat := 2000
def i2c (x : Int32) : Int32 := (x.toUInt32 % 65536).toInt32
def isc (v : Int32) : Bool := decide (¬ v < 0 ∧ v ≤ 65535)
def slN (j : Nat) : Int32 := Int32.ofNat (slen.getD j 0)
def sby (j i : Nat) : Int32 := (sbyt.getD j []).getD i 0
def bv {α β : Type} (x : α) (k : α → β) : β := k x
def wm {β : Type} (M : Mem) (k : Mem → β) : β := k M
def imax (x y : Int32) : Int32 := if x < y then y else x
def imin (x y : Int32) : Int32 := if y < x then y else x
def cpb (sp dp n : Int32) (n0 n1 : Nat) : Bool := decide (¬ sp < 0 ∧ ¬ dp < 0 ∧ ¬ n < 0 ∧ ix sp + ix n ≤ n0 ∧ ix dp + ix n ≤ n1)

theorem zz_iload_n {ρ : Type} {E : EV} {l : Launch} {own : String} {cc : ByteArray} {nL : Nat} {ret : Option FieldType} {ws : List Cond} {rm : Room} {vl : ρ → Option Value} {M : Mem} {lv : List (Nat × Value)} {pc npc : Nat} {st : List Value} {o : Option (ρ × Mem)} {k : Fin 4} {i : Nat} {x : Int32} (j : Nat) (hi : (k : Nat) = i) (hj : lv[j]? = some (i, .int x)) (hd : decode cc pc = .ok (.iload_n k, 1)) (hn : pc + 1 = npc) (kk : ZZ E l own cc nL ret ws rm vl o M lv npc (.int x :: st)) : ZZ E l own cc nL ret ws rm vl o M lv pc st := by
  intro p e s m args below meth c H locs ls r M9 C ho hP hS hl
  subst hn
  exact lv_iload_n C.1 C.2.1 hd hi (lv_at hl j hj) (kk p e s m args below meth c H locs ls r M9 C ho hP hS hl)
theorem zz_iload {ρ : Type} {E : EV} {l : Launch} {own : String} {cc : ByteArray} {nL : Nat} {ret : Option FieldType} {ws : List Cond} {rm : Room} {vl : ρ → Option Value} {M : Mem} {lv : List (Nat × Value)} {pc npc : Nat} {st : List Value} {o : Option (ρ × Mem)} {i : Nat} {x : Int32} (j : Nat) (hj : lv[j]? = some (i, .int x)) (hd : decode cc pc = .ok (.iload i, 2)) (hn : pc + 2 = npc) (kk : ZZ E l own cc nL ret ws rm vl o M lv npc (.int x :: st)) : ZZ E l own cc nL ret ws rm vl o M lv pc st := by
  intro p e s m args below meth c H locs ls r M9 C ho hP hS hl
  subst hn
  exact lv_iload C.1 C.2.1 hd (lv_at hl j hj) (kk p e s m args below meth c H locs ls r M9 C ho hP hS hl)
theorem zz_aload_n {ρ : Type} {E : EV} {l : Launch} {own : String} {cc : ByteArray} {nL : Nat} {ret : Option FieldType} {ws : List Cond} {rm : Room} {vl : ρ → Option Value} {M : Mem} {lv : List (Nat × Value)} {pc npc : Nat} {st : List Value} {o : Option (ρ × Mem)} {k : Fin 4} {i : Nat} {x : Nat} (j : Nat) (hi : (k : Nat) = i) (hj : lv[j]? = some (i, .ref x)) (hd : decode cc pc = .ok (.aload_n k, 1)) (hn : pc + 1 = npc) (kk : ZZ E l own cc nL ret ws rm vl o M lv npc (.ref x :: st)) : ZZ E l own cc nL ret ws rm vl o M lv pc st := by
  intro p e s m args below meth c H locs ls r M9 C ho hP hS hl
  subst hn
  exact lv_aload_n C.1 C.2.1 hd hi (lv_at hl j hj) (kk p e s m args below meth c H locs ls r M9 C ho hP hS hl)
theorem zz_aload {ρ : Type} {E : EV} {l : Launch} {own : String} {cc : ByteArray} {nL : Nat} {ret : Option FieldType} {ws : List Cond} {rm : Room} {vl : ρ → Option Value} {M : Mem} {lv : List (Nat × Value)} {pc npc : Nat} {st : List Value} {o : Option (ρ × Mem)} {i : Nat} {x : Nat} (j : Nat) (hj : lv[j]? = some (i, .ref x)) (hd : decode cc pc = .ok (.aload i, 2)) (hn : pc + 2 = npc) (kk : ZZ E l own cc nL ret ws rm vl o M lv npc (.ref x :: st)) : ZZ E l own cc nL ret ws rm vl o M lv pc st := by
  intro p e s m args below meth c H locs ls r M9 C ho hP hS hl
  subst hn
  exact lv_aload C.1 C.2.1 hd (lv_at hl j hj) (kk p e s m args below meth c H locs ls r M9 C ho hP hS hl)
theorem zz_lload_n {ρ : Type} {E : EV} {l : Launch} {own : String} {cc : ByteArray} {nL : Nat} {ret : Option FieldType} {ws : List Cond} {rm : Room} {vl : ρ → Option Value} {M : Mem} {lv : List (Nat × Value)} {pc npc : Nat} {st : List Value} {o : Option (ρ × Mem)} {k : Fin 4} {i : Nat} {x : Int64} (j : Nat) (hi : (k : Nat) = i) (hj : lv[j]? = some (i, .long x)) (hd : decode cc pc = .ok (.lload_n k, 1)) (hn : pc + 1 = npc) (kk : ZZ E l own cc nL ret ws rm vl o M lv npc (.long x :: st)) : ZZ E l own cc nL ret ws rm vl o M lv pc st := by
  intro p e s m args below meth c H locs ls r M9 C ho hP hS hl
  subst hn
  exact lv_lload_n C.1 C.2.1 hd hi (lv_at hl j hj) (kk p e s m args below meth c H locs ls r M9 C ho hP hS hl)
theorem zz_lload {ρ : Type} {E : EV} {l : Launch} {own : String} {cc : ByteArray} {nL : Nat} {ret : Option FieldType} {ws : List Cond} {rm : Room} {vl : ρ → Option Value} {M : Mem} {lv : List (Nat × Value)} {pc npc : Nat} {st : List Value} {o : Option (ρ × Mem)} {i : Nat} {x : Int64} (j : Nat) (hj : lv[j]? = some (i, .long x)) (hd : decode cc pc = .ok (.lload i, 2)) (hn : pc + 2 = npc) (kk : ZZ E l own cc nL ret ws rm vl o M lv npc (.long x :: st)) : ZZ E l own cc nL ret ws rm vl o M lv pc st := by
  intro p e s m args below meth c H locs ls r M9 C ho hP hS hl
  subst hn
  exact lv_lload C.1 C.2.1 hd (lv_at hl j hj) (kk p e s m args below meth c H locs ls r M9 C ho hP hS hl)
theorem zz_iconst {ρ : Type} {E : EV} {l : Launch} {own : String} {cc : ByteArray} {nL : Nat} {ret : Option FieldType} {ws : List Cond} {rm : Room} {vl : ρ → Option Value} {M : Mem} {lv : List (Nat × Value)} {pc npc : Nat} {st : List Value} {o : Option (ρ × Mem)} {n : Int} (v : Int32) (hv : Int32.ofInt n = v) (hd : decode cc pc = .ok (.iconst n, 1)) (hn : pc + 1 = npc) (kk : ZZ E l own cc nL ret ws rm vl o M lv npc (.int v :: st)) : ZZ E l own cc nL ret ws rm vl o M lv pc st := by
  intro p e s m args below meth c H locs ls r M9 C ho hP hS hl
  subst hn
  exact lv_iconst C.1 C.2.1 hd hv (kk p e s m args below meth c H locs ls r M9 C ho hP hS hl)
theorem zz_bipush {ρ : Type} {E : EV} {l : Launch} {own : String} {cc : ByteArray} {nL : Nat} {ret : Option FieldType} {ws : List Cond} {rm : Room} {vl : ρ → Option Value} {M : Mem} {lv : List (Nat × Value)} {pc npc : Nat} {st : List Value} {o : Option (ρ × Mem)} {n : Int} (v : Int32) (hv : (Int8.ofInt n).toInt32 = v) (hd : decode cc pc = .ok (.bipush n, 2)) (hn : pc + 2 = npc) (kk : ZZ E l own cc nL ret ws rm vl o M lv npc (.int v :: st)) : ZZ E l own cc nL ret ws rm vl o M lv pc st := by
  intro p e s m args below meth c H locs ls r M9 C ho hP hS hl
  subst hn
  exact lv_bipush C.1 C.2.1 hd hv (kk p e s m args below meth c H locs ls r M9 C ho hP hS hl)
theorem zz_sipush {ρ : Type} {E : EV} {l : Launch} {own : String} {cc : ByteArray} {nL : Nat} {ret : Option FieldType} {ws : List Cond} {rm : Room} {vl : ρ → Option Value} {M : Mem} {lv : List (Nat × Value)} {pc npc : Nat} {st : List Value} {o : Option (ρ × Mem)} {n : Int} (v : Int32) (hv : (Int16.ofInt n).toInt32 = v) (hd : decode cc pc = .ok (.sipush n, 3)) (hn : pc + 3 = npc) (kk : ZZ E l own cc nL ret ws rm vl o M lv npc (.int v :: st)) : ZZ E l own cc nL ret ws rm vl o M lv pc st := by
  intro p e s m args below meth c H locs ls r M9 C ho hP hS hl
  subst hn
  exact lv_sipush C.1 C.2.1 hd hv (kk p e s m args below meth c H locs ls r M9 C ho hP hS hl)
theorem zz_lconst {ρ : Type} {E : EV} {l : Launch} {own : String} {cc : ByteArray} {nL : Nat} {ret : Option FieldType} {ws : List Cond} {rm : Room} {vl : ρ → Option Value} {M : Mem} {lv : List (Nat × Value)} {pc npc : Nat} {st : List Value} {o : Option (ρ × Mem)} {n : Fin 2} (v : Int64) (hv : Int64.ofNat (n : Nat) = v) (hd : decode cc pc = .ok (.lconst n, 1)) (hn : pc + 1 = npc) (kk : ZZ E l own cc nL ret ws rm vl o M lv npc (.long v :: st)) : ZZ E l own cc nL ret ws rm vl o M lv pc st := by
  intro p e s m args below meth c H locs ls r M9 C ho hP hS hl
  subst hn
  exact lv_lconst C.1 C.2.1 hd hv (kk p e s m args below meth c H locs ls r M9 C ho hP hS hl)
theorem zz_ldc {ρ : Type} {E : EV} {l : Launch} {own : String} {cc : ByteArray} {nL : Nat} {ret : Option FieldType} {ws : List Cond} {rm : Room} {vl : ρ → Option Value} {M : Mem} {lv : List (Nat × Value)} {pc npc : Nat} {st : List Value} {o : Option (ρ × Mem)} {index : Nat} (v : Int32) (hw : Jvm.Cond.constant own index v ∈ ws) (hd : decode cc pc = .ok (.ldc index, 2)) (hn : pc + 2 = npc) (kk : ZZ E l own cc nL ret ws rm vl o M lv npc (.int v :: st)) : ZZ E l own cc nL ret ws rm vl o M lv pc st := by
  intro p e s m args below meth c H locs ls r M9 C ho hP hS hl
  subst hn
  exact lv_ldc C.1 C.2.1 C.2.2.2.2.1 (C.2.2.2.2.2.1 _ hw) hd (kk p e s m args below meth c H locs ls r M9 C ho hP hS hl)
theorem zz_ldcw {ρ : Type} {E : EV} {l : Launch} {own : String} {cc : ByteArray} {nL : Nat} {ret : Option FieldType} {ws : List Cond} {rm : Room} {vl : ρ → Option Value} {M : Mem} {lv : List (Nat × Value)} {pc npc : Nat} {st : List Value} {o : Option (ρ × Mem)} {index : Nat} (v : Int32) (hw : Jvm.Cond.constant own index v ∈ ws) (hd : decode cc pc = .ok (.ldc_w index, 3)) (hn : pc + 3 = npc) (kk : ZZ E l own cc nL ret ws rm vl o M lv npc (.int v :: st)) : ZZ E l own cc nL ret ws rm vl o M lv pc st := by
  intro p e s m args below meth c H locs ls r M9 C ho hP hS hl
  subst hn
  exact lv_ldcw C.1 C.2.1 C.2.2.2.2.1 (C.2.2.2.2.2.1 _ hw) hd (kk p e s m args below meth c H locs ls r M9 C ho hP hS hl)
theorem zz_ldcS {ρ : Type} {E : EV} {l : Launch} {own : String} {cc : ByteArray} {nL : Nat} {ret : Option FieldType} {ws : List Cond} {rm : Room} {vl : ρ → Option Value} {M : Mem} {lv : List (Nat × Value)} {pc npc : Nat} {st : List Value} {o : Option (ρ × Mem)} {index j : Nat} {tx : String} (hw : (own, index, tx, j) ∈ srefL) (hd : decode cc pc = .ok (.ldc index, 2)) (hn : pc + 2 = npc) (kk : ZZ E l own cc nL ret ws rm vl o M lv npc (.ref (eK E j) :: st)) : ZZ E l own cc nL ret ws rm vl o M lv pc st := by
  intro p e s m args below meth c H locs ls r M9 C ho hP hS hl
  subst hn
  exact va_ldcS C.1 C.2.1 C.2.2.2.2.1 (C.2.2.2.2.2.2.2.2.2.2.2.2.2.2.2 _ hw) hd (kk p e s m args below meth c H locs ls r M9 C ho hP hS hl)
theorem zz_iadd {ρ : Type} {E : EV} {l : Launch} {own : String} {cc : ByteArray} {nL : Nat} {ret : Option FieldType} {ws : List Cond} {rm : Room} {vl : ρ → Option Value} {M : Mem} {lv : List (Nat × Value)} {pc npc : Nat} {st : List Value} {o : Option (ρ × Mem)} {x y : Int32} (hd : decode cc pc = .ok (.iadd, 1)) (hn : pc + 1 = npc) (kk : ZZ E l own cc nL ret ws rm vl o M lv npc (.int (x + y) :: st)) : ZZ E l own cc nL ret ws rm vl o M lv pc (.int y :: .int x :: st) := by
  intro p e s m args below meth c H locs ls r M9 C ho hP hS hl
  subst hn
  exact lv_iadd C.1 C.2.1 hd (kk p e s m args below meth c H locs ls r M9 C ho hP hS hl)
theorem zz_isub {ρ : Type} {E : EV} {l : Launch} {own : String} {cc : ByteArray} {nL : Nat} {ret : Option FieldType} {ws : List Cond} {rm : Room} {vl : ρ → Option Value} {M : Mem} {lv : List (Nat × Value)} {pc npc : Nat} {st : List Value} {o : Option (ρ × Mem)} {x y : Int32} (hd : decode cc pc = .ok (.isub, 1)) (hn : pc + 1 = npc) (kk : ZZ E l own cc nL ret ws rm vl o M lv npc (.int (x - y) :: st)) : ZZ E l own cc nL ret ws rm vl o M lv pc (.int y :: .int x :: st) := by
  intro p e s m args below meth c H locs ls r M9 C ho hP hS hl
  subst hn
  exact lv_isub C.1 C.2.1 hd (kk p e s m args below meth c H locs ls r M9 C ho hP hS hl)
theorem zz_imul {ρ : Type} {E : EV} {l : Launch} {own : String} {cc : ByteArray} {nL : Nat} {ret : Option FieldType} {ws : List Cond} {rm : Room} {vl : ρ → Option Value} {M : Mem} {lv : List (Nat × Value)} {pc npc : Nat} {st : List Value} {o : Option (ρ × Mem)} {x y : Int32} (hd : decode cc pc = .ok (.imul, 1)) (hn : pc + 1 = npc) (kk : ZZ E l own cc nL ret ws rm vl o M lv npc (.int (x * y) :: st)) : ZZ E l own cc nL ret ws rm vl o M lv pc (.int y :: .int x :: st) := by
  intro p e s m args below meth c H locs ls r M9 C ho hP hS hl
  subst hn
  exact lv_imul C.1 C.2.1 hd (kk p e s m args below meth c H locs ls r M9 C ho hP hS hl)
theorem zz_iand {ρ : Type} {E : EV} {l : Launch} {own : String} {cc : ByteArray} {nL : Nat} {ret : Option FieldType} {ws : List Cond} {rm : Room} {vl : ρ → Option Value} {M : Mem} {lv : List (Nat × Value)} {pc npc : Nat} {st : List Value} {o : Option (ρ × Mem)} {x y : Int32} (hd : decode cc pc = .ok (.iand, 1)) (hn : pc + 1 = npc) (kk : ZZ E l own cc nL ret ws rm vl o M lv npc (.int (x &&& y) :: st)) : ZZ E l own cc nL ret ws rm vl o M lv pc (.int y :: .int x :: st) := by
  intro p e s m args below meth c H locs ls r M9 C ho hP hS hl
  subst hn
  exact lv_iand C.1 C.2.1 hd (kk p e s m args below meth c H locs ls r M9 C ho hP hS hl)
theorem zz_ior {ρ : Type} {E : EV} {l : Launch} {own : String} {cc : ByteArray} {nL : Nat} {ret : Option FieldType} {ws : List Cond} {rm : Room} {vl : ρ → Option Value} {M : Mem} {lv : List (Nat × Value)} {pc npc : Nat} {st : List Value} {o : Option (ρ × Mem)} {x y : Int32} (hd : decode cc pc = .ok (.ior, 1)) (hn : pc + 1 = npc) (kk : ZZ E l own cc nL ret ws rm vl o M lv npc (.int (x ||| y) :: st)) : ZZ E l own cc nL ret ws rm vl o M lv pc (.int y :: .int x :: st) := by
  intro p e s m args below meth c H locs ls r M9 C ho hP hS hl
  subst hn
  exact lv_ior C.1 C.2.1 hd (kk p e s m args below meth c H locs ls r M9 C ho hP hS hl)
theorem zz_ixor {ρ : Type} {E : EV} {l : Launch} {own : String} {cc : ByteArray} {nL : Nat} {ret : Option FieldType} {ws : List Cond} {rm : Room} {vl : ρ → Option Value} {M : Mem} {lv : List (Nat × Value)} {pc npc : Nat} {st : List Value} {o : Option (ρ × Mem)} {x y : Int32} (hd : decode cc pc = .ok (.ixor, 1)) (hn : pc + 1 = npc) (kk : ZZ E l own cc nL ret ws rm vl o M lv npc (.int (x ^^^ y) :: st)) : ZZ E l own cc nL ret ws rm vl o M lv pc (.int y :: .int x :: st) := by
  intro p e s m args below meth c H locs ls r M9 C ho hP hS hl
  subst hn
  exact lv_ixor C.1 C.2.1 hd (kk p e s m args below meth c H locs ls r M9 C ho hP hS hl)
theorem zz_ishl {ρ : Type} {E : EV} {l : Launch} {own : String} {cc : ByteArray} {nL : Nat} {ret : Option FieldType} {ws : List Cond} {rm : Room} {vl : ρ → Option Value} {M : Mem} {lv : List (Nat × Value)} {pc npc : Nat} {st : List Value} {o : Option (ρ × Mem)} {x y : Int32} (hd : decode cc pc = .ok (.ishl, 1)) (hn : pc + 1 = npc) (kk : ZZ E l own cc nL ret ws rm vl o M lv npc (.int (shl x y) :: st)) : ZZ E l own cc nL ret ws rm vl o M lv pc (.int y :: .int x :: st) := by
  intro p e s m args below meth c H locs ls r M9 C ho hP hS hl
  subst hn
  exact lv_ishl C.1 C.2.1 hd (kk p e s m args below meth c H locs ls r M9 C ho hP hS hl)
theorem zz_ishr {ρ : Type} {E : EV} {l : Launch} {own : String} {cc : ByteArray} {nL : Nat} {ret : Option FieldType} {ws : List Cond} {rm : Room} {vl : ρ → Option Value} {M : Mem} {lv : List (Nat × Value)} {pc npc : Nat} {st : List Value} {o : Option (ρ × Mem)} {x y : Int32} (hd : decode cc pc = .ok (.ishr, 1)) (hn : pc + 1 = npc) (kk : ZZ E l own cc nL ret ws rm vl o M lv npc (.int (shr x y) :: st)) : ZZ E l own cc nL ret ws rm vl o M lv pc (.int y :: .int x :: st) := by
  intro p e s m args below meth c H locs ls r M9 C ho hP hS hl
  subst hn
  exact lv_ishr C.1 C.2.1 hd (kk p e s m args below meth c H locs ls r M9 C ho hP hS hl)
theorem zz_iushr {ρ : Type} {E : EV} {l : Launch} {own : String} {cc : ByteArray} {nL : Nat} {ret : Option FieldType} {ws : List Cond} {rm : Room} {vl : ρ → Option Value} {M : Mem} {lv : List (Nat × Value)} {pc npc : Nat} {st : List Value} {o : Option (ρ × Mem)} {x y : Int32} (hd : decode cc pc = .ok (.iushr, 1)) (hn : pc + 1 = npc) (kk : ZZ E l own cc nL ret ws rm vl o M lv npc (.int (ush x y) :: st)) : ZZ E l own cc nL ret ws rm vl o M lv pc (.int y :: .int x :: st) := by
  intro p e s m args below meth c H locs ls r M9 C ho hP hS hl
  subst hn
  exact lv_iushr C.1 C.2.1 hd rfl (kk p e s m args below meth c H locs ls r M9 C ho hP hS hl)
theorem zz_idiv {ρ : Type} {E : EV} {l : Launch} {own : String} {cc : ByteArray} {nL : Nat} {ret : Option FieldType} {ws : List Cond} {rm : Room} {vl : ρ → Option Value} {M : Mem} {lv : List (Nat × Value)} {pc npc : Nat} {st : List Value} {o : Option (ρ × Mem)} {x y : Int32} (hy : ¬ y = 0) (hd : decode cc pc = .ok (.idiv, 1)) (hn : pc + 1 = npc) (kk : ZZ E l own cc nL ret ws rm vl o M lv npc (.int (x / y) :: st)) : ZZ E l own cc nL ret ws rm vl o M lv pc (.int y :: .int x :: st) := by
  intro p e s m args below meth c H locs ls r M9 C ho hP hS hl
  subst hn
  exact lv_idiv C.1 C.2.1 hd hy (kk p e s m args below meth c H locs ls r M9 C ho hP hS hl)
theorem zz_irem {ρ : Type} {E : EV} {l : Launch} {own : String} {cc : ByteArray} {nL : Nat} {ret : Option FieldType} {ws : List Cond} {rm : Room} {vl : ρ → Option Value} {M : Mem} {lv : List (Nat × Value)} {pc npc : Nat} {st : List Value} {o : Option (ρ × Mem)} {x y : Int32} (hy : ¬ y = 0) (hd : decode cc pc = .ok (.irem, 1)) (hn : pc + 1 = npc) (kk : ZZ E l own cc nL ret ws rm vl o M lv npc (.int (irm x y) :: st)) : ZZ E l own cc nL ret ws rm vl o M lv pc (.int y :: .int x :: st) := by
  intro p e s m args below meth c H locs ls r M9 C ho hP hS hl
  subst hn
  exact lv_irem C.1 C.2.1 hd hy (kk p e s m args below meth c H locs ls r M9 C ho hP hS hl)
theorem zz_idivg {ρ : Type} {E : EV} {l : Launch} {own : String} {cc : ByteArray} {nL : Nat} {ret : Option FieldType} {ws : List Cond} {rm : Room} {vl : ρ → Option Value} {M : Mem} {lv : List (Nat × Value)} {pc npc : Nat} {st : List Value} {o : Option (ρ × Mem)} {x y : Int32} (hd : decode cc pc = .ok (.idiv, 1)) (hn : pc + 1 = npc) (kk : ZZ E l own cc nL ret ws rm vl o M lv npc (.int (x / y) :: st)) : ZZ E l own cc nL ret ws rm vl (ck (!decide (y = 0)) o) M lv pc (.int y :: .int x :: st) := by
  intro p e s m args below meth c H locs ls r M9 C ho hP hS hl
  subst hn
  obtain ⟨hy, ho⟩ := ck_some ho
  exact lv_idiv C.1 C.2.1 hd (by simpa using hy) (kk p e s m args below meth c H locs ls r M9 C ho hP hS hl)
theorem zz_iremg {ρ : Type} {E : EV} {l : Launch} {own : String} {cc : ByteArray} {nL : Nat} {ret : Option FieldType} {ws : List Cond} {rm : Room} {vl : ρ → Option Value} {M : Mem} {lv : List (Nat × Value)} {pc npc : Nat} {st : List Value} {o : Option (ρ × Mem)} {x y : Int32} (hd : decode cc pc = .ok (.irem, 1)) (hn : pc + 1 = npc) (kk : ZZ E l own cc nL ret ws rm vl o M lv npc (.int (irm x y) :: st)) : ZZ E l own cc nL ret ws rm vl (ck (!decide (y = 0)) o) M lv pc (.int y :: .int x :: st) := by
  intro p e s m args below meth c H locs ls r M9 C ho hP hS hl
  subst hn
  obtain ⟨hy, ho⟩ := ck_some ho
  exact lv_irem C.1 C.2.1 hd (by simpa using hy) (kk p e s m args below meth c H locs ls r M9 C ho hP hS hl)
theorem zz_ladd {ρ : Type} {E : EV} {l : Launch} {own : String} {cc : ByteArray} {nL : Nat} {ret : Option FieldType} {ws : List Cond} {rm : Room} {vl : ρ → Option Value} {M : Mem} {lv : List (Nat × Value)} {pc npc : Nat} {st : List Value} {o : Option (ρ × Mem)} {x y : Int64} (hd : decode cc pc = .ok (.ladd, 1)) (hn : pc + 1 = npc) (kk : ZZ E l own cc nL ret ws rm vl o M lv npc (.long (x + y) :: st)) : ZZ E l own cc nL ret ws rm vl o M lv pc (.long y :: .long x :: st) := by
  intro p e s m args below meth c H locs ls r M9 C ho hP hS hl
  subst hn
  exact lv_ladd C.1 C.2.1 hd (kk p e s m args below meth c H locs ls r M9 C ho hP hS hl)
theorem zz_lmul {ρ : Type} {E : EV} {l : Launch} {own : String} {cc : ByteArray} {nL : Nat} {ret : Option FieldType} {ws : List Cond} {rm : Room} {vl : ρ → Option Value} {M : Mem} {lv : List (Nat × Value)} {pc npc : Nat} {st : List Value} {o : Option (ρ × Mem)} {x y : Int64} (hd : decode cc pc = .ok (.lmul, 1)) (hn : pc + 1 = npc) (kk : ZZ E l own cc nL ret ws rm vl o M lv npc (.long (x * y) :: st)) : ZZ E l own cc nL ret ws rm vl o M lv pc (.long y :: .long x :: st) := by
  intro p e s m args below meth c H locs ls r M9 C ho hP hS hl
  subst hn
  exact lv_lmul C.1 C.2.1 hd (kk p e s m args below meth c H locs ls r M9 C ho hP hS hl)
theorem zz_lcmp {ρ : Type} {E : EV} {l : Launch} {own : String} {cc : ByteArray} {nL : Nat} {ret : Option FieldType} {ws : List Cond} {rm : Room} {vl : ρ → Option Value} {M : Mem} {lv : List (Nat × Value)} {pc npc : Nat} {st : List Value} {o : Option (ρ × Mem)} {x y : Int64} (hd : decode cc pc = .ok (.lcmp, 1)) (hn : pc + 1 = npc) (kk : ZZ E l own cc nL ret ws rm vl o M lv npc (.int (lg_cmp x y) :: st)) : ZZ E l own cc nL ret ws rm vl o M lv pc (.long y :: .long x :: st) := by
  intro p e s m args below meth c H locs ls r M9 C ho hP hS hl
  subst hn
  exact W.lcmp C.1 C.2.1 hd (kk p e s m args below meth c H locs ls r M9 C ho hP hS hl)
theorem zz_i2l {ρ : Type} {E : EV} {l : Launch} {own : String} {cc : ByteArray} {nL : Nat} {ret : Option FieldType} {ws : List Cond} {rm : Room} {vl : ρ → Option Value} {M : Mem} {lv : List (Nat × Value)} {pc npc : Nat} {st : List Value} {o : Option (ρ × Mem)} {x : Int32} (hd : decode cc pc = .ok (.i2l, 1)) (hn : pc + 1 = npc) (kk : ZZ E l own cc nL ret ws rm vl o M lv npc (.long x.toInt64 :: st)) : ZZ E l own cc nL ret ws rm vl o M lv pc (.int x :: st) := by
  intro p e s m args below meth c H locs ls r M9 C ho hP hS hl
  subst hn
  exact lv_i2l C.1 C.2.1 hd rfl (kk p e s m args below meth c H locs ls r M9 C ho hP hS hl)
theorem zz_i2b {ρ : Type} {E : EV} {l : Launch} {own : String} {cc : ByteArray} {nL : Nat} {ret : Option FieldType} {ws : List Cond} {rm : Room} {vl : ρ → Option Value} {M : Mem} {lv : List (Nat × Value)} {pc npc : Nat} {st : List Value} {o : Option (ρ × Mem)} {x : Int32} (hd : decode cc pc = .ok (.i2b, 1)) (hn : pc + 1 = npc) (kk : ZZ E l own cc nL ret ws rm vl o M lv npc (.int (i2b x) :: st)) : ZZ E l own cc nL ret ws rm vl o M lv pc (.int x :: st) := by
  intro p e s m args below meth c H locs ls r M9 C ho hP hS hl
  subst hn
  exact lv_i2b C.1 C.2.1 hd rfl (kk p e s m args below meth c H locs ls r M9 C ho hP hS hl)
theorem zz_i2s {ρ : Type} {E : EV} {l : Launch} {own : String} {cc : ByteArray} {nL : Nat} {ret : Option FieldType} {ws : List Cond} {rm : Room} {vl : ρ → Option Value} {M : Mem} {lv : List (Nat × Value)} {pc npc : Nat} {st : List Value} {o : Option (ρ × Mem)} {x : Int32} (hd : decode cc pc = .ok (.i2s, 1)) (hn : pc + 1 = npc) (kk : ZZ E l own cc nL ret ws rm vl o M lv npc (.int (i2s x) :: st)) : ZZ E l own cc nL ret ws rm vl o M lv pc (.int x :: st) := by
  intro p e s m args below meth c H locs ls r M9 C ho hP hS hl
  subst hn
  exact lv_i2s C.1 C.2.1 hd rfl (kk p e s m args below meth c H locs ls r M9 C ho hP hS hl)
theorem zz_dup {ρ : Type} {E : EV} {l : Launch} {own : String} {cc : ByteArray} {nL : Nat} {ret : Option FieldType} {ws : List Cond} {rm : Room} {vl : ρ → Option Value} {M : Mem} {lv : List (Nat × Value)} {pc npc : Nat} {st : List Value} {o : Option (ρ × Mem)} {v : Value} (hv : v.category = 1) (hd : decode cc pc = .ok (.dup, 1)) (hn : pc + 1 = npc) (kk : ZZ E l own cc nL ret ws rm vl o M lv npc (v :: v :: st)) : ZZ E l own cc nL ret ws rm vl o M lv pc (v :: st) := by
  intro p e s m args below meth c H locs ls r M9 C ho hP hS hl
  subst hn
  exact lv_dup C.1 C.2.1 hd hv (kk p e s m args below meth c H locs ls r M9 C ho hP hS hl)
theorem zz_dup2 {ρ : Type} {E : EV} {l : Launch} {own : String} {cc : ByteArray} {nL : Nat} {ret : Option FieldType} {ws : List Cond} {rm : Room} {vl : ρ → Option Value} {M : Mem} {lv : List (Nat × Value)} {pc npc : Nat} {st : List Value} {o : Option (ρ × Mem)} {v w : Value} (hv : v.category = 1) (hw : w.category = 1) (hd : decode cc pc = .ok (.dup2, 1)) (hn : pc + 1 = npc) (kk : ZZ E l own cc nL ret ws rm vl o M lv npc (v :: w :: v :: w :: st)) : ZZ E l own cc nL ret ws rm vl o M lv pc (v :: w :: st) := by
  intro p e s m args below meth c H locs ls r M9 C ho hP hS hl
  subst hn
  exact lv_dup2_11 C.1 C.2.1 hd hv hw (kk p e s m args below meth c H locs ls r M9 C ho hP hS hl)
theorem zz_pop {ρ : Type} {E : EV} {l : Launch} {own : String} {cc : ByteArray} {nL : Nat} {ret : Option FieldType} {ws : List Cond} {rm : Room} {vl : ρ → Option Value} {M : Mem} {lv : List (Nat × Value)} {pc npc : Nat} {st : List Value} {o : Option (ρ × Mem)} {v : Value} (hv : v.category = 1) (hd : decode cc pc = .ok (.pop, 1)) (hn : pc + 1 = npc) (kk : ZZ E l own cc nL ret ws rm vl o M lv npc st) : ZZ E l own cc nL ret ws rm vl o M lv pc (v :: st) := by
  intro p e s m args below meth c H locs ls r M9 C ho hP hS hl
  subst hn
  exact lv_pop C.1 C.2.1 hd hv (kk p e s m args below meth c H locs ls r M9 C ho hP hS hl)
theorem zz_istore_n {ρ : Type} {E : EV} {l : Launch} {own : String} {cc : ByteArray} {nL : Nat} {ret : Option FieldType} {ws : List Cond} {rm : Room} {vl : ρ → Option Value} {M : Mem} {lv : List (Nat × Value)} {pc npc : Nat} {st : List Value} {o : Option (ρ × Mem)} {x : Int32} {lv1 : List (Nat × Value)} {k : Fin 4} {i : Nat} (hi : (k : Nat) = i) (hd : decode cc pc = .ok (.istore_n k, 1)) (hn : pc + 1 = npc) (hb : i < nL) (hf : (i, Value.int x) :: lv.filter (fun q => !(q.1 == i) && !(q.1 + 1 == i && q.2.category == 2)) = lv1) (kk : ZZ E l own cc nL ret ws rm vl o M lv1 npc st) : ZZ E l own cc nL ret ws rm vl o M lv pc (.int x :: st) := by
  intro p e s m args below meth c H locs ls r M9 C ho hP hS hl
  subst hn
  exact lv_istore_n C.1 C.2.1 hd hi hl hb hf (fun ls1 hl1 => kk p e s m args below meth c H locs ls1 r M9 C ho hP hS hl1)
theorem zz_istore {ρ : Type} {E : EV} {l : Launch} {own : String} {cc : ByteArray} {nL : Nat} {ret : Option FieldType} {ws : List Cond} {rm : Room} {vl : ρ → Option Value} {M : Mem} {lv : List (Nat × Value)} {pc npc : Nat} {st : List Value} {o : Option (ρ × Mem)} {x : Int32} {lv1 : List (Nat × Value)} {i : Nat} (hd : decode cc pc = .ok (.istore i, 2)) (hn : pc + 2 = npc) (hb : i < nL) (hf : (i, Value.int x) :: lv.filter (fun q => !(q.1 == i) && !(q.1 + 1 == i && q.2.category == 2)) = lv1) (kk : ZZ E l own cc nL ret ws rm vl o M lv1 npc st) : ZZ E l own cc nL ret ws rm vl o M lv pc (.int x :: st) := by
  intro p e s m args below meth c H locs ls r M9 C ho hP hS hl
  subst hn
  exact lv_istore C.1 C.2.1 hd hl hb hf (fun ls1 hl1 => kk p e s m args below meth c H locs ls1 r M9 C ho hP hS hl1)
theorem zz_astore_n {ρ : Type} {E : EV} {l : Launch} {own : String} {cc : ByteArray} {nL : Nat} {ret : Option FieldType} {ws : List Cond} {rm : Room} {vl : ρ → Option Value} {M : Mem} {lv : List (Nat × Value)} {pc npc : Nat} {st : List Value} {o : Option (ρ × Mem)} {x : Nat} {lv1 : List (Nat × Value)} {k : Fin 4} {i : Nat} (hi : (k : Nat) = i) (hd : decode cc pc = .ok (.astore_n k, 1)) (hn : pc + 1 = npc) (hb : i < nL) (hf : (i, Value.ref x) :: lv.filter (fun q => !(q.1 == i) && !(q.1 + 1 == i && q.2.category == 2)) = lv1) (kk : ZZ E l own cc nL ret ws rm vl o M lv1 npc st) : ZZ E l own cc nL ret ws rm vl o M lv pc (.ref x :: st) := by
  intro p e s m args below meth c H locs ls r M9 C ho hP hS hl
  subst hn
  exact lv_astore_n C.1 C.2.1 hd hi hl hb hf (fun ls1 hl1 => kk p e s m args below meth c H locs ls1 r M9 C ho hP hS hl1)
theorem zz_astore {ρ : Type} {E : EV} {l : Launch} {own : String} {cc : ByteArray} {nL : Nat} {ret : Option FieldType} {ws : List Cond} {rm : Room} {vl : ρ → Option Value} {M : Mem} {lv : List (Nat × Value)} {pc npc : Nat} {st : List Value} {o : Option (ρ × Mem)} {x : Nat} {lv1 : List (Nat × Value)} {i : Nat} (hd : decode cc pc = .ok (.astore i, 2)) (hn : pc + 2 = npc) (hb : i < nL) (hf : (i, Value.ref x) :: lv.filter (fun q => !(q.1 == i) && !(q.1 + 1 == i && q.2.category == 2)) = lv1) (kk : ZZ E l own cc nL ret ws rm vl o M lv1 npc st) : ZZ E l own cc nL ret ws rm vl o M lv pc (.ref x :: st) := by
  intro p e s m args below meth c H locs ls r M9 C ho hP hS hl
  subst hn
  exact lv_astore C.1 C.2.1 hd hl hb hf (fun ls1 hl1 => kk p e s m args below meth c H locs ls1 r M9 C ho hP hS hl1)
theorem zz_lstore_n {ρ : Type} {E : EV} {l : Launch} {own : String} {cc : ByteArray} {nL : Nat} {ret : Option FieldType} {ws : List Cond} {rm : Room} {vl : ρ → Option Value} {M : Mem} {lv : List (Nat × Value)} {pc npc : Nat} {st : List Value} {o : Option (ρ × Mem)} {x : Int64} {lv1 : List (Nat × Value)} {k : Fin 4} {i : Nat} (hi : (k : Nat) = i) (hd : decode cc pc = .ok (.lstore_n k, 1)) (hn : pc + 1 = npc) (hb : i + 1 < nL) (hf : (i, Value.long x) :: lv.filter (fun q => !(q.1 == i) && (!(q.1 == i + 1) && !(q.1 + 1 == i && q.2.category == 2))) = lv1) (kk : ZZ E l own cc nL ret ws rm vl o M lv1 npc st) : ZZ E l own cc nL ret ws rm vl o M lv pc (.long x :: st) := by
  intro p e s m args below meth c H locs ls r M9 C ho hP hS hl
  subst hn
  exact lv_lstore_n C.1 C.2.1 hd hi hl hb hf (fun ls1 hl1 => kk p e s m args below meth c H locs ls1 r M9 C ho hP hS hl1)
theorem zz_lstore {ρ : Type} {E : EV} {l : Launch} {own : String} {cc : ByteArray} {nL : Nat} {ret : Option FieldType} {ws : List Cond} {rm : Room} {vl : ρ → Option Value} {M : Mem} {lv : List (Nat × Value)} {pc npc : Nat} {st : List Value} {o : Option (ρ × Mem)} {x : Int64} {lv1 : List (Nat × Value)} {i : Nat} (hd : decode cc pc = .ok (.lstore i, 2)) (hn : pc + 2 = npc) (hb : i + 1 < nL) (hf : (i, Value.long x) :: lv.filter (fun q => !(q.1 == i) && (!(q.1 == i + 1) && !(q.1 + 1 == i && q.2.category == 2))) = lv1) (kk : ZZ E l own cc nL ret ws rm vl o M lv1 npc st) : ZZ E l own cc nL ret ws rm vl o M lv pc (.long x :: st) := by
  intro p e s m args below meth c H locs ls r M9 C ho hP hS hl
  subst hn
  exact lv_lstore C.1 C.2.1 hd hl hb hf (fun ls1 hl1 => kk p e s m args below meth c H locs ls1 r M9 C ho hP hS hl1)
theorem zz_iinc {ρ : Type} {E : EV} {l : Launch} {own : String} {cc : ByteArray} {nL : Nat} {ret : Option FieldType} {ws : List Cond} {rm : Room} {vl : ρ → Option Value} {M : Mem} {lv : List (Nat × Value)} {pc npc : Nat} {st : List Value} {o : Option (ρ × Mem)} {i : Nat} {n : Int} {x : Int32} (v : Int32) {lv1 : List (Nat × Value)} (hd : decode cc pc = .ok (.iinc i n, 3)) (hn : pc + 3 = npc) (j : Nat) (hj : lv[j]? = some (i, .int x)) (hv : x + Int32.ofInt n = v) (hb : i < nL) (hf : (i, Value.int v) :: lv.filter (fun q => !(q.1 == i) && !(q.1 + 1 == i && q.2.category == 2)) = lv1) (kk : ZZ E l own cc nL ret ws rm vl o M lv1 npc st) : ZZ E l own cc nL ret ws rm vl o M lv pc st := by
  intro p e s m args below meth c H locs ls r M9 C ho hP hS hl
  subst hn
  exact lv_iinc C.1 C.2.1 hd hl hj hv hb hf (fun ls1 hl1 => kk p e s m args below meth c H locs ls1 r M9 C ho hP hS hl1)
theorem zz_istore_nB {ρ : Type} {E : EV} {l : Launch} {own : String} {cc : ByteArray} {nL : Nat} {ret : Option FieldType} {ws : List Cond} {rm : Room} {vl : ρ → Option Value} {M : Mem} {lv : List (Nat × Value)} {pc npc : Nat} {st : List Value} {k : Int32 → Option (ρ × Mem)} {x : Int32} {lv1 : Int32 → List (Nat × Value)} {k1 : Fin 4} {i : Nat} (hi : (k1 : Nat) = i) (hd : decode cc pc = .ok (.istore_n k1, 1)) (hn : pc + 1 = npc) (hb : i < nL) (hf : ∀ x : Int32, (i, Value.int x) :: lv.filter (fun q => !(q.1 == i) && !(q.1 + 1 == i && q.2.category == 2)) = lv1 x) (kk : ∀ x : Int32, ZZ E l own cc nL ret ws rm vl (k x) M (lv1 x) npc st) : ZZ E l own cc nL ret ws rm vl (bv x k) M lv pc (.int x :: st) := by
  intro p e s m args below meth c H locs ls r M9 C ho hP hS hl
  subst hn
  exact lv_istore_n C.1 C.2.1 hd hi hl hb (hf x) (fun ls1 hl1 => kk x p e s m args below meth c H locs ls1 r M9 C ho hP hS hl1)
theorem zz_istoreB {ρ : Type} {E : EV} {l : Launch} {own : String} {cc : ByteArray} {nL : Nat} {ret : Option FieldType} {ws : List Cond} {rm : Room} {vl : ρ → Option Value} {M : Mem} {lv : List (Nat × Value)} {pc npc : Nat} {st : List Value} {k : Int32 → Option (ρ × Mem)} {x : Int32} {lv1 : Int32 → List (Nat × Value)} {i : Nat} (hd : decode cc pc = .ok (.istore i, 2)) (hn : pc + 2 = npc) (hb : i < nL) (hf : ∀ x : Int32, (i, Value.int x) :: lv.filter (fun q => !(q.1 == i) && !(q.1 + 1 == i && q.2.category == 2)) = lv1 x) (kk : ∀ x : Int32, ZZ E l own cc nL ret ws rm vl (k x) M (lv1 x) npc st) : ZZ E l own cc nL ret ws rm vl (bv x k) M lv pc (.int x :: st) := by
  intro p e s m args below meth c H locs ls r M9 C ho hP hS hl
  subst hn
  exact lv_istore C.1 C.2.1 hd hl hb (hf x) (fun ls1 hl1 => kk x p e s m args below meth c H locs ls1 r M9 C ho hP hS hl1)
theorem zz_lstore_nB {ρ : Type} {E : EV} {l : Launch} {own : String} {cc : ByteArray} {nL : Nat} {ret : Option FieldType} {ws : List Cond} {rm : Room} {vl : ρ → Option Value} {M : Mem} {lv : List (Nat × Value)} {pc npc : Nat} {st : List Value} {k : Int64 → Option (ρ × Mem)} {x : Int64} {lv1 : Int64 → List (Nat × Value)} {k1 : Fin 4} {i : Nat} (hi : (k1 : Nat) = i) (hd : decode cc pc = .ok (.lstore_n k1, 1)) (hn : pc + 1 = npc) (hb : i + 1 < nL) (hf : ∀ x : Int64, (i, Value.long x) :: lv.filter (fun q => !(q.1 == i) && (!(q.1 == i + 1) && !(q.1 + 1 == i && q.2.category == 2))) = lv1 x) (kk : ∀ x : Int64, ZZ E l own cc nL ret ws rm vl (k x) M (lv1 x) npc st) : ZZ E l own cc nL ret ws rm vl (bv x k) M lv pc (.long x :: st) := by
  intro p e s m args below meth c H locs ls r M9 C ho hP hS hl
  subst hn
  exact lv_lstore_n C.1 C.2.1 hd hi hl hb (hf x) (fun ls1 hl1 => kk x p e s m args below meth c H locs ls1 r M9 C ho hP hS hl1)
theorem zz_lstoreB {ρ : Type} {E : EV} {l : Launch} {own : String} {cc : ByteArray} {nL : Nat} {ret : Option FieldType} {ws : List Cond} {rm : Room} {vl : ρ → Option Value} {M : Mem} {lv : List (Nat × Value)} {pc npc : Nat} {st : List Value} {k : Int64 → Option (ρ × Mem)} {x : Int64} {lv1 : Int64 → List (Nat × Value)} {i : Nat} (hd : decode cc pc = .ok (.lstore i, 2)) (hn : pc + 2 = npc) (hb : i + 1 < nL) (hf : ∀ x : Int64, (i, Value.long x) :: lv.filter (fun q => !(q.1 == i) && (!(q.1 == i + 1) && !(q.1 + 1 == i && q.2.category == 2))) = lv1 x) (kk : ∀ x : Int64, ZZ E l own cc nL ret ws rm vl (k x) M (lv1 x) npc st) : ZZ E l own cc nL ret ws rm vl (bv x k) M lv pc (.long x :: st) := by
  intro p e s m args below meth c H locs ls r M9 C ho hP hS hl
  subst hn
  exact lv_lstore C.1 C.2.1 hd hl hb (hf x) (fun ls1 hl1 => kk x p e s m args below meth c H locs ls1 r M9 C ho hP hS hl1)
theorem zz_iincB {ρ : Type} {E : EV} {l : Launch} {own : String} {cc : ByteArray} {nL : Nat} {ret : Option FieldType} {ws : List Cond} {rm : Room} {vl : ρ → Option Value} {M : Mem} {lv : List (Nat × Value)} {pc npc : Nat} {st : List Value} {k : Int32 → Option (ρ × Mem)} {i : Nat} {n : Int} {x : Int32} (v : Int32) {lv1 : Int32 → List (Nat × Value)} (hd : decode cc pc = .ok (.iinc i n, 3)) (hn : pc + 3 = npc) (j : Nat) (hj : lv[j]? = some (i, .int x)) (hv : x + Int32.ofInt n = v) (hb : i < nL) (hf : ∀ v : Int32, (i, Value.int v) :: lv.filter (fun q => !(q.1 == i) && !(q.1 + 1 == i && q.2.category == 2)) = lv1 v) (kk : ∀ v : Int32, ZZ E l own cc nL ret ws rm vl (k v) M (lv1 v) npc st) : ZZ E l own cc nL ret ws rm vl (bv v k) M lv pc st := by
  intro p e s m args below meth c H locs ls r M9 C ho hP hS hl
  subst hn
  exact lv_iinc C.1 C.2.1 hd hl hj hv hb (hf v) (fun ls1 hl1 => kk v p e s m args below meth c H locs ls1 r M9 C ho hP hS hl1)
theorem zz_goto {ρ : Type} {E : EV} {l : Launch} {own : String} {cc : ByteArray} {nL : Nat} {ret : Option FieldType} {ws : List Cond} {rm : Room} {vl : ρ → Option Value} {M : Mem} {lv : List (Nat × Value)} {pc npc : Nat} {st : List Value} {o : Option (ρ × Mem)} {off : Int} {tgt : Nat} (hd : decode cc pc = .ok (.goto off, 3)) (ht : (pc : Int) + off = (tgt : Int)) (kk : ZZ E l own cc nL ret ws rm vl o M lv tgt st) : ZZ E l own cc nL ret ws rm vl o M lv pc st := by
  intro p e s m args below meth c H locs ls r M9 C ho hP hS hl
  exact lv_goto C.1 C.2.1 hd ht (kk p e s m args below meth c H locs ls r M9 C ho hP hS hl)
theorem zz_if_eq {ρ : Type} {E : EV} {l : Launch} {own : String} {cc : ByteArray} {nL : Nat} {ret : Option FieldType} {ws : List Cond} {rm : Room} {vl : ρ → Option Value} {M : Mem} {lv : List (Nat × Value)} {pc npc : Nat} {st : List Value} {A B : Option (ρ × Mem)} {x : Int32} [Decidable (x = 0)] {off : Int} {tgt : Nat} (hd : decode cc pc = .ok (.ifCond .eq off, 3)) (ht : (pc : Int) + off = (tgt : Int)) (hn : pc + 3 = npc) (kt : ZZ E l own cc nL ret ws rm vl A M lv tgt st) (kf : ZZ E l own cc nL ret ws rm vl B M lv npc st) : ZZ E l own cc nL ret ws rm vl (if x = 0 then A else B) M lv pc (.int x :: st) := by
  intro p e s m args below meth c H locs ls r M9 C ho hP hS hl
  subst hn
  refine lv_if_eq C.1 C.2.1 hd ht (fun q => kt p e s m args below meth c H locs ls r M9 C (by rw [if_pos q] at ho; exact ho) hP hS hl) (fun q => kf p e s m args below meth c H locs ls r M9 C (by rw [if_neg q] at ho; exact ho) hP hS hl)
theorem zz_icmp_eq {ρ : Type} {E : EV} {l : Launch} {own : String} {cc : ByteArray} {nL : Nat} {ret : Option FieldType} {ws : List Cond} {rm : Room} {vl : ρ → Option Value} {M : Mem} {lv : List (Nat × Value)} {pc npc : Nat} {st : List Value} {A B : Option (ρ × Mem)} {x y : Int32} [Decidable (x = y)] {off : Int} {tgt : Nat} (hd : decode cc pc = .ok (.if_icmp .eq off, 3)) (ht : (pc : Int) + off = (tgt : Int)) (hn : pc + 3 = npc) (kt : ZZ E l own cc nL ret ws rm vl A M lv tgt st) (kf : ZZ E l own cc nL ret ws rm vl B M lv npc st) : ZZ E l own cc nL ret ws rm vl (if x = y then A else B) M lv pc (.int y :: .int x :: st) := by
  intro p e s m args below meth c H locs ls r M9 C ho hP hS hl
  subst hn
  refine lv_icmp_eq C.1 C.2.1 hd ht (fun q => kt p e s m args below meth c H locs ls r M9 C (by rw [if_pos q] at ho; exact ho) hP hS hl) (fun q => kf p e s m args below meth c H locs ls r M9 C (by rw [if_neg q] at ho; exact ho) hP hS hl)
theorem zz_if_ne {ρ : Type} {E : EV} {l : Launch} {own : String} {cc : ByteArray} {nL : Nat} {ret : Option FieldType} {ws : List Cond} {rm : Room} {vl : ρ → Option Value} {M : Mem} {lv : List (Nat × Value)} {pc npc : Nat} {st : List Value} {A B : Option (ρ × Mem)} {x : Int32} [Decidable (x = 0)] {off : Int} {tgt : Nat} (hd : decode cc pc = .ok (.ifCond .ne off, 3)) (ht : (pc : Int) + off = (tgt : Int)) (hn : pc + 3 = npc) (kt : ZZ E l own cc nL ret ws rm vl B M lv tgt st) (kf : ZZ E l own cc nL ret ws rm vl A M lv npc st) : ZZ E l own cc nL ret ws rm vl (if x = 0 then A else B) M lv pc (.int x :: st) := by
  intro p e s m args below meth c H locs ls r M9 C ho hP hS hl
  subst hn
  refine lv_if_ne C.1 C.2.1 hd ht (fun q => kt p e s m args below meth c H locs ls r M9 C (by rw [if_neg q] at ho; exact ho) hP hS hl) (fun q => kf p e s m args below meth c H locs ls r M9 C (by rw [if_pos q] at ho; exact ho) hP hS hl)
theorem zz_icmp_ne {ρ : Type} {E : EV} {l : Launch} {own : String} {cc : ByteArray} {nL : Nat} {ret : Option FieldType} {ws : List Cond} {rm : Room} {vl : ρ → Option Value} {M : Mem} {lv : List (Nat × Value)} {pc npc : Nat} {st : List Value} {A B : Option (ρ × Mem)} {x y : Int32} [Decidable (x = y)] {off : Int} {tgt : Nat} (hd : decode cc pc = .ok (.if_icmp .ne off, 3)) (ht : (pc : Int) + off = (tgt : Int)) (hn : pc + 3 = npc) (kt : ZZ E l own cc nL ret ws rm vl B M lv tgt st) (kf : ZZ E l own cc nL ret ws rm vl A M lv npc st) : ZZ E l own cc nL ret ws rm vl (if x = y then A else B) M lv pc (.int y :: .int x :: st) := by
  intro p e s m args below meth c H locs ls r M9 C ho hP hS hl
  subst hn
  refine lv_icmp_ne C.1 C.2.1 hd ht (fun q => kt p e s m args below meth c H locs ls r M9 C (by rw [if_neg q] at ho; exact ho) hP hS hl) (fun q => kf p e s m args below meth c H locs ls r M9 C (by rw [if_pos q] at ho; exact ho) hP hS hl)
theorem zz_if_lt {ρ : Type} {E : EV} {l : Launch} {own : String} {cc : ByteArray} {nL : Nat} {ret : Option FieldType} {ws : List Cond} {rm : Room} {vl : ρ → Option Value} {M : Mem} {lv : List (Nat × Value)} {pc npc : Nat} {st : List Value} {A B : Option (ρ × Mem)} {x : Int32} [Decidable (x < 0)] {off : Int} {tgt : Nat} (hd : decode cc pc = .ok (.ifCond .lt off, 3)) (ht : (pc : Int) + off = (tgt : Int)) (hn : pc + 3 = npc) (kt : ZZ E l own cc nL ret ws rm vl A M lv tgt st) (kf : ZZ E l own cc nL ret ws rm vl B M lv npc st) : ZZ E l own cc nL ret ws rm vl (if x < 0 then A else B) M lv pc (.int x :: st) := by
  intro p e s m args below meth c H locs ls r M9 C ho hP hS hl
  subst hn
  refine lv_if_lt C.1 C.2.1 hd ht (fun q => kt p e s m args below meth c H locs ls r M9 C (by rw [if_pos q] at ho; exact ho) hP hS hl) (fun q => kf p e s m args below meth c H locs ls r M9 C (by rw [if_neg q] at ho; exact ho) hP hS hl)
theorem zz_icmp_lt {ρ : Type} {E : EV} {l : Launch} {own : String} {cc : ByteArray} {nL : Nat} {ret : Option FieldType} {ws : List Cond} {rm : Room} {vl : ρ → Option Value} {M : Mem} {lv : List (Nat × Value)} {pc npc : Nat} {st : List Value} {A B : Option (ρ × Mem)} {x y : Int32} [Decidable (x < y)] {off : Int} {tgt : Nat} (hd : decode cc pc = .ok (.if_icmp .lt off, 3)) (ht : (pc : Int) + off = (tgt : Int)) (hn : pc + 3 = npc) (kt : ZZ E l own cc nL ret ws rm vl A M lv tgt st) (kf : ZZ E l own cc nL ret ws rm vl B M lv npc st) : ZZ E l own cc nL ret ws rm vl (if x < y then A else B) M lv pc (.int y :: .int x :: st) := by
  intro p e s m args below meth c H locs ls r M9 C ho hP hS hl
  subst hn
  refine lv_icmp_lt C.1 C.2.1 hd ht (fun q => kt p e s m args below meth c H locs ls r M9 C (by rw [if_pos q] at ho; exact ho) hP hS hl) (fun q => kf p e s m args below meth c H locs ls r M9 C (by rw [if_neg q] at ho; exact ho) hP hS hl)
theorem zz_if_ge {ρ : Type} {E : EV} {l : Launch} {own : String} {cc : ByteArray} {nL : Nat} {ret : Option FieldType} {ws : List Cond} {rm : Room} {vl : ρ → Option Value} {M : Mem} {lv : List (Nat × Value)} {pc npc : Nat} {st : List Value} {A B : Option (ρ × Mem)} {x : Int32} [Decidable (0 ≤ x)] {off : Int} {tgt : Nat} (hd : decode cc pc = .ok (.ifCond .ge off, 3)) (ht : (pc : Int) + off = (tgt : Int)) (hn : pc + 3 = npc) (kt : ZZ E l own cc nL ret ws rm vl A M lv tgt st) (kf : ZZ E l own cc nL ret ws rm vl B M lv npc st) : ZZ E l own cc nL ret ws rm vl (if 0 ≤ x then A else B) M lv pc (.int x :: st) := by
  intro p e s m args below meth c H locs ls r M9 C ho hP hS hl
  subst hn
  refine lv_if_ge C.1 C.2.1 hd ht (fun q => kt p e s m args below meth c H locs ls r M9 C (by rw [if_pos q] at ho; exact ho) hP hS hl) (fun q => kf p e s m args below meth c H locs ls r M9 C (by rw [if_neg q] at ho; exact ho) hP hS hl)
theorem zz_icmp_ge {ρ : Type} {E : EV} {l : Launch} {own : String} {cc : ByteArray} {nL : Nat} {ret : Option FieldType} {ws : List Cond} {rm : Room} {vl : ρ → Option Value} {M : Mem} {lv : List (Nat × Value)} {pc npc : Nat} {st : List Value} {A B : Option (ρ × Mem)} {x y : Int32} [Decidable (y ≤ x)] {off : Int} {tgt : Nat} (hd : decode cc pc = .ok (.if_icmp .ge off, 3)) (ht : (pc : Int) + off = (tgt : Int)) (hn : pc + 3 = npc) (kt : ZZ E l own cc nL ret ws rm vl A M lv tgt st) (kf : ZZ E l own cc nL ret ws rm vl B M lv npc st) : ZZ E l own cc nL ret ws rm vl (if y ≤ x then A else B) M lv pc (.int y :: .int x :: st) := by
  intro p e s m args below meth c H locs ls r M9 C ho hP hS hl
  subst hn
  refine lv_icmp_ge C.1 C.2.1 hd ht (fun q => kt p e s m args below meth c H locs ls r M9 C (by rw [if_pos q] at ho; exact ho) hP hS hl) (fun q => kf p e s m args below meth c H locs ls r M9 C (by rw [if_neg q] at ho; exact ho) hP hS hl)
theorem zz_if_gt {ρ : Type} {E : EV} {l : Launch} {own : String} {cc : ByteArray} {nL : Nat} {ret : Option FieldType} {ws : List Cond} {rm : Room} {vl : ρ → Option Value} {M : Mem} {lv : List (Nat × Value)} {pc npc : Nat} {st : List Value} {A B : Option (ρ × Mem)} {x : Int32} [Decidable (0 < x)] {off : Int} {tgt : Nat} (hd : decode cc pc = .ok (.ifCond .gt off, 3)) (ht : (pc : Int) + off = (tgt : Int)) (hn : pc + 3 = npc) (kt : ZZ E l own cc nL ret ws rm vl A M lv tgt st) (kf : ZZ E l own cc nL ret ws rm vl B M lv npc st) : ZZ E l own cc nL ret ws rm vl (if 0 < x then A else B) M lv pc (.int x :: st) := by
  intro p e s m args below meth c H locs ls r M9 C ho hP hS hl
  subst hn
  refine lv_if_gt C.1 C.2.1 hd ht (fun q => kt p e s m args below meth c H locs ls r M9 C (by rw [if_pos q] at ho; exact ho) hP hS hl) (fun q => kf p e s m args below meth c H locs ls r M9 C (by rw [if_neg q] at ho; exact ho) hP hS hl)
theorem zz_icmp_gt {ρ : Type} {E : EV} {l : Launch} {own : String} {cc : ByteArray} {nL : Nat} {ret : Option FieldType} {ws : List Cond} {rm : Room} {vl : ρ → Option Value} {M : Mem} {lv : List (Nat × Value)} {pc npc : Nat} {st : List Value} {A B : Option (ρ × Mem)} {x y : Int32} [Decidable (y < x)] {off : Int} {tgt : Nat} (hd : decode cc pc = .ok (.if_icmp .gt off, 3)) (ht : (pc : Int) + off = (tgt : Int)) (hn : pc + 3 = npc) (kt : ZZ E l own cc nL ret ws rm vl A M lv tgt st) (kf : ZZ E l own cc nL ret ws rm vl B M lv npc st) : ZZ E l own cc nL ret ws rm vl (if y < x then A else B) M lv pc (.int y :: .int x :: st) := by
  intro p e s m args below meth c H locs ls r M9 C ho hP hS hl
  subst hn
  refine lv_icmp_gt C.1 C.2.1 hd ht (fun q => kt p e s m args below meth c H locs ls r M9 C (by rw [if_pos q] at ho; exact ho) hP hS hl) (fun q => kf p e s m args below meth c H locs ls r M9 C (by rw [if_neg q] at ho; exact ho) hP hS hl)
theorem zz_if_le {ρ : Type} {E : EV} {l : Launch} {own : String} {cc : ByteArray} {nL : Nat} {ret : Option FieldType} {ws : List Cond} {rm : Room} {vl : ρ → Option Value} {M : Mem} {lv : List (Nat × Value)} {pc npc : Nat} {st : List Value} {A B : Option (ρ × Mem)} {x : Int32} [Decidable (x ≤ 0)] {off : Int} {tgt : Nat} (hd : decode cc pc = .ok (.ifCond .le off, 3)) (ht : (pc : Int) + off = (tgt : Int)) (hn : pc + 3 = npc) (kt : ZZ E l own cc nL ret ws rm vl A M lv tgt st) (kf : ZZ E l own cc nL ret ws rm vl B M lv npc st) : ZZ E l own cc nL ret ws rm vl (if x ≤ 0 then A else B) M lv pc (.int x :: st) := by
  intro p e s m args below meth c H locs ls r M9 C ho hP hS hl
  subst hn
  refine lv_if_le C.1 C.2.1 hd ht (fun q => kt p e s m args below meth c H locs ls r M9 C (by rw [if_pos q] at ho; exact ho) hP hS hl) (fun q => kf p e s m args below meth c H locs ls r M9 C (by rw [if_neg q] at ho; exact ho) hP hS hl)
theorem zz_icmp_le {ρ : Type} {E : EV} {l : Launch} {own : String} {cc : ByteArray} {nL : Nat} {ret : Option FieldType} {ws : List Cond} {rm : Room} {vl : ρ → Option Value} {M : Mem} {lv : List (Nat × Value)} {pc npc : Nat} {st : List Value} {A B : Option (ρ × Mem)} {x y : Int32} [Decidable (x ≤ y)] {off : Int} {tgt : Nat} (hd : decode cc pc = .ok (.if_icmp .le off, 3)) (ht : (pc : Int) + off = (tgt : Int)) (hn : pc + 3 = npc) (kt : ZZ E l own cc nL ret ws rm vl A M lv tgt st) (kf : ZZ E l own cc nL ret ws rm vl B M lv npc st) : ZZ E l own cc nL ret ws rm vl (if x ≤ y then A else B) M lv pc (.int y :: .int x :: st) := by
  intro p e s m args below meth c H locs ls r M9 C ho hP hS hl
  subst hn
  refine lv_icmp_le C.1 C.2.1 hd ht (fun q => kt p e s m args below meth c H locs ls r M9 C (by rw [if_pos q] at ho; exact ho) hP hS hl) (fun q => kf p e s m args below meth c H locs ls r M9 C (by rw [if_neg q] at ho; exact ho) hP hS hl)
theorem zz_tcase {ρ : Type} {E : EV} {l : Launch} {own : String} {cc : ByteArray} {nL : Nat} {ret : Option FieldType} {ws : List Cond} {rm : Room} {vl : ρ → Option Value} {M : Mem} {lv : List (Nat × Value)} {pc npc : Nat} {st : List Value} {A B : Option (ρ × Mem)} {x : Int32} {dflt lo hi : Int} {offs : Array Int} {len : Nat} {off : Int} {tgt : Nat} (k : Int32) [Decidable (x = k)] (hd : decode cc pc = .ok (.tableswitch dflt lo hi offs, len)) (h1 : ¬ k.toInt < lo) (h2 : ¬ hi < k.toInt) (h3 : offs[(k.toInt - lo).toNat]? = some off) (ht : (pc : Int) + off = (tgt : Int)) (kt : x = k → ZZ E l own cc nL ret ws rm vl A M lv tgt st) (kf : ¬ x = k → ZZ E l own cc nL ret ws rm vl B M lv pc (.int x :: st)) : ZZ E l own cc nL ret ws rm vl (if x = k then A else B) M lv pc (.int x :: st) := by
  intro p e s m args below meth c H locs ls r M9 C ho hP hS hl
  by_cases q : x = k
  · rw [if_pos q] at ho
    refine lv_tableIn C.1 C.2.1 hd (by rw [q]; exact h1) (by rw [q]; exact h2) (by rw [q]; exact h3) ht (kt q p e s m args below meth c H locs ls r M9 C ho hP hS hl)
  · rw [if_neg q] at ho
    exact kf q p e s m args below meth c H locs ls r M9 C ho hP hS hl
theorem zz_tdef {ρ : Type} {E : EV} {l : Launch} {own : String} {cc : ByteArray} {nL : Nat} {ret : Option FieldType} {ws : List Cond} {rm : Room} {vl : ρ → Option Value} {M : Mem} {lv : List (Nat × Value)} {pc npc : Nat} {st : List Value} {o : Option (ρ × Mem)} {x : Int32} {dflt lo hi : Int} {offs : Array Int} {len tgt : Nat} (hd : decode cc pc = .ok (.tableswitch dflt lo hi offs, len)) (h : x.toInt < lo ∨ hi < x.toInt) (ht : (pc : Int) + dflt = (tgt : Int)) (kk : ZZ E l own cc nL ret ws rm vl o M lv tgt st) : ZZ E l own cc nL ret ws rm vl o M lv pc (.int x :: st) := by
  intro p e s m args below meth c H locs ls r M9 C ho hP hS hl
  exact lv_tableOut C.1 C.2.1 hd h ht (kk p e s m args below meth c H locs ls r M9 C ho hP hS hl)
theorem td_n (x : Int32) (n : Nat) (hn : n < 2 ^ 31) (h : ∀ k : Nat, k < n + 1 → ¬ x = nI k) : x.toInt < 0 ∨ (n : Int) < x.toInt := by
  by_cases h0 : x < 0
  · exact Or.inl (by simpa using Int32.lt_iff_toInt_lt.mp h0)
  · obtain ⟨j, hj, rfl⟩ := nI_of h0
    right
    rw [nI_toInt hj]
    rcases Nat.lt_or_ge j (n + 1) with q | q
    · exact absurd rfl (h j q)
    · omega
theorem td_r (x : Int32) (lo hi : Int) (h0 : (-2147483648 ≤ lo ∧ hi < 2147483648)) (h : ∀ k : Int, lo ≤ k → k ≤ hi → ¬ x = Int32.ofInt k) : x.toInt < lo ∨ hi < x.toInt := by
  by_cases h1 : x.toInt < lo
  · exact Or.inl h1
  · by_cases h2 : hi < x.toInt
    · exact Or.inr h2
    · exact absurd (Int32.ofInt_toInt x).symm (h x.toInt (by omega) (by omega))
theorem zz_getI {ρ : Type} {E : EV} {l : Launch} {own : String} {cc : ByteArray} {nL : Nat} {ret : Option FieldType} {ws : List Cond} {rm : Room} {vl : ρ → Option Value} {M : Mem} {lv : List (Nat × Value)} {pc npc : Nat} {st : List Value} {o : Option (ρ × Mem)} {b i ci index : Nat} {fs : List (Option Nat)} {C0 : String} {T : u_T} {N : Nat} (hb : b < NC) (hlay : lay b = (0, ci, fs)) (hc : vwCl[ci]? = some (C0, T, N)) (hiN : i < N) (hin : ∀ w ∈ u_ws C0 T N, w ∈ ws) (hw : Cond.fieldLink own index (T i).1 (T i).2.1 (T i).2.2.1 ∈ ws) (hi : fs[i]? = some none) (hd : decode cc pc = .ok (.getfield index, 3)) (hn : pc + 3 = npc) (kk : ZZ E l own cc nL ret ws rm vl o M lv npc (.int (M b i) :: st)) : ZZ E l own cc nL ret ws rm vl o M lv pc (.ref (eA E b) :: st) := by
  intro p e s m args below meth c H locs ls r M9 C ho hP hS hl
  subst hn
  exact va_get (ref := (T i).1) (v := .int (M b i)) C.1 C.2.1 C.2.2.2.2.2.1 hin C.2.2.2.2.1 C.2.2.2.2.2.2.2.2.1 hP b (by rw [ws_get E M hb, cE_obj E M hlay]) hc i hiN (C.2.2.2.2.2.1 _ hw) (fun _ h => h) (by rw [List.getElem?_mapIdx, hi]; rfl) hd (kk p e s m args below meth c H locs ls r M9 C ho hP hS hl)
theorem zz_getR {ρ : Type} {E : EV} {l : Launch} {own : String} {cc : ByteArray} {nL : Nat} {ret : Option FieldType} {ws : List Cond} {rm : Room} {vl : ρ → Option Value} {M : Mem} {lv : List (Nat × Value)} {pc npc : Nat} {st : List Value} {o : Option (ρ × Mem)} {j : Nat} {b i ci index : Nat} {fs : List (Option Nat)} {C0 : String} {T : u_T} {N : Nat} (hb : b < NC) (hlay : lay b = (0, ci, fs)) (hc : vwCl[ci]? = some (C0, T, N)) (hiN : i < N) (hin : ∀ w ∈ u_ws C0 T N, w ∈ ws) (hw : Cond.fieldLink own index (T i).1 (T i).2.1 (T i).2.2.1 ∈ ws) (hi : fs[i]? = some (some j)) (hd : decode cc pc = .ok (.getfield index, 3)) (hn : pc + 3 = npc) (kk : ZZ E l own cc nL ret ws rm vl o M lv npc (.ref (eA E j) :: st)) : ZZ E l own cc nL ret ws rm vl o M lv pc (.ref (eA E b) :: st) := by
  intro p e s m args below meth c H locs ls r M9 C ho hP hS hl
  subst hn
  exact va_get (ref := (T i).1) (v := .ref (eA E j)) C.1 C.2.1 C.2.2.2.2.2.1 hin C.2.2.2.2.1 C.2.2.2.2.2.2.2.2.1 hP b (by rw [ws_get E M hb, cE_obj E M hlay]) hc i hiN (C.2.2.2.2.2.1 _ hw) (fun _ h => h) (by rw [List.getElem?_mapIdx, hi]; rfl) hd (kk p e s m args below meth c H locs ls r M9 C ho hP hS hl)
theorem zz_putI {ρ : Type} {E : EV} {l : Launch} {own : String} {cc : ByteArray} {nL : Nat} {ret : Option FieldType} {ws : List Cond} {rm : Room} {vl : ρ → Option Value} {M : Mem} {lv : List (Nat × Value)} {pc npc : Nat} {st : List Value} {k : Mem → Option (ρ × Mem)} {x : Int32} {b i ci index : Nat} {fs : List (Option Nat)} {C0 : String} {T : u_T} {N : Nat} (hb : b < NC) (hlay : lay b = (0, ci, fs)) (hc : vwCl[ci]? = some (C0, T, N)) (hiN : i < N) (hin : ∀ w ∈ u_ws C0 T N, w ∈ ws) (hw : Cond.fieldLink own index (T i).1 (T i).2.1 (T i).2.2.1 ∈ ws) {ty0 : Nat → FieldType} (hty : ∀ k, k < N → parseFieldDescriptor (T k).2.2.1 = some (ty0 k)) (hnm : ∀ a, a < N → ∀ b, b < N → a ≠ b → (T a).2.1 ≠ (T b).2.1) (hfin : (T i).2.2.2 = false) (hi : fs[i]? = some none) (ht : ty0 i = .int) (hd : decode cc pc = .ok (.putfield index, 3)) (hn : pc + 3 = npc) (kk : ∀ M1 : Mem, ZZ E l own cc nL ret ws rm vl (k M1) M1 lv npc st) : ZZ E l own cc nL ret ws rm vl (wm (wr M b i x) k) M lv pc (.int x :: .ref (eA E b) :: st) := by
  intro p e s m args below meth c H locs ls r M9 C ho hP hS hl
  subst hn
  exact va_put (ref := (T i).1) (v := .int x) C.1 C.2.1 C.2.2.2.2.2.1 hin ty0 hty hnm C.2.2.2.2.1 C.2.2.2.2.2.2.2.2.1 hP (ws_D E C.2.2.2.2.2.2.2.1 M) hS b (by rw [ws_get E M hb, cE_obj E M hlay]) hc i hiN (C.2.2.2.2.2.1 _ hw) (fun _ h => h) hfin (hty i hiN) (by rw [ht]; rfl) (by rw [ht]; rfl) (by rw [List.length_mapIdx]; exact (List.getElem?_eq_some_iff.mp hi).1) hd (fun H1 locs1 hP1 hD1 hS1 => kk (wr M b i x) p e s m args below meth c H1 locs1 ls r M9 C ho (by rw [ws_put E M hb hlay hi x] at hP1; exact hP1) hS1 hl)
theorem zz_putZ {ρ : Type} {E : EV} {l : Launch} {own : String} {cc : ByteArray} {nL : Nat} {ret : Option FieldType} {ws : List Cond} {rm : Room} {vl : ρ → Option Value} {M : Mem} {lv : List (Nat × Value)} {pc npc : Nat} {st : List Value} {k : Mem → Option (ρ × Mem)} {x : Int32} {b i ci index : Nat} {fs : List (Option Nat)} {C0 : String} {T : u_T} {N : Nat} (hb : b < NC) (hlay : lay b = (0, ci, fs)) (hc : vwCl[ci]? = some (C0, T, N)) (hiN : i < N) (hin : ∀ w ∈ u_ws C0 T N, w ∈ ws) (hw : Cond.fieldLink own index (T i).1 (T i).2.1 (T i).2.2.1 ∈ ws) {ty0 : Nat → FieldType} (hty : ∀ k, k < N → parseFieldDescriptor (T k).2.2.1 = some (ty0 k)) (hnm : ∀ a, a < N → ∀ b, b < N → a ≠ b → (T a).2.1 ≠ (T b).2.1) (hfin : (T i).2.2.2 = false) (hi : fs[i]? = some none) (ht : ty0 i = .boolean) (hd : decode cc pc = .ok (.putfield index, 3)) (hn : pc + 3 = npc) (kk : ∀ M1 : Mem, ZZ E l own cc nL ret ws rm vl (k M1) M1 lv npc st) : ZZ E l own cc nL ret ws rm vl (ck (isb x) (wm (wr M b i x) k)) M lv pc (.int x :: .ref (eA E b) :: st) := by
  intro p e s m args below meth c H locs ls r M9 C ho hP hS hl
  subst hn
  obtain ⟨hx, ho⟩ := ck_some ho
  have hx : x = 0 ∨ x = 1 := of_decide_eq_true hx
  exact va_put (ref := (T i).1) (v := .int x) C.1 C.2.1 C.2.2.2.2.2.1 hin ty0 hty hnm C.2.2.2.2.1 C.2.2.2.2.2.2.2.2.1 hP (ws_D E C.2.2.2.2.2.2.2.1 M) hS b (by rw [ws_get E M hb, cE_obj E M hlay]) hc i hiN (C.2.2.2.2.2.1 _ hw) (fun _ h => h) hfin (hty i hiN) (by rw [ht]; rcases hx with rfl | rfl <;> rfl) (by rw [ht]; rcases hx with rfl | rfl <;> rfl) (by rw [List.length_mapIdx]; exact (List.getElem?_eq_some_iff.mp hi).1) hd (fun H1 locs1 hP1 hD1 hS1 => kk (wr M b i x) p e s m args below meth c H1 locs1 ls r M9 C ho (by rw [ws_put E M hb hlay hi x] at hP1; exact hP1) hS1 hl)
theorem zz_iald {ρ : Type} {E : EV} {l : Launch} {own : String} {cc : ByteArray} {nL : Nat} {ret : Option FieldType} {ws : List Cond} {rm : Room} {vl : ρ → Option Value} {M : Mem} {lv : List (Nat × Value)} {pc npc : Nat} {st : List Value} {o : Option (ρ × Mem)} {b n : Nat} {i : Int32} (hb : b < NC) (hlay : lay b = (1, n, [])) (hd : decode cc pc = .ok (.iaload, 1)) (hn : pc + 1 = npc) (kk : ZZ E l own cc nL ret ws rm vl o M lv npc (.int (M b (ix i)) :: st)) : ZZ E l own cc nL ret ws rm vl (ck (inb i n) o) M lv pc (.int i :: .ref (eA E b) :: st) := by
  intro p e s m args below meth c H locs ls r M9 C ho hP hS hl
  subst hn
  obtain ⟨hx, ho⟩ := ck_some ho
  exact va_iald C.1 C.2.1 C.2.2.2.2.2.2.2.2.1 hP b 0 (by rw [ws_get E M hb, cE_row E M hlay]) rfl (inb_in hx) hd (kk p e s m args below meth c H locs ls r M9 C ho hP hS hl)
theorem zz_iast {ρ : Type} {E : EV} {l : Launch} {own : String} {cc : ByteArray} {nL : Nat} {ret : Option FieldType} {ws : List Cond} {rm : Room} {vl : ρ → Option Value} {M : Mem} {lv : List (Nat × Value)} {pc npc : Nat} {st : List Value} {k : Mem → Option (ρ × Mem)} {b n : Nat} {i x : Int32} (hb : b < NC) (hlay : lay b = (1, n, [])) (hd : decode cc pc = .ok (.iastore, 1)) (hn : pc + 1 = npc) (kk : ∀ M1 : Mem, ZZ E l own cc nL ret ws rm vl (k M1) M1 lv npc st) : ZZ E l own cc nL ret ws rm vl (ck (inb i n) (wm (wr M b (ix i) x) k)) M lv pc (.int x :: .int i :: .ref (eA E b) :: st) := by
  intro p e s m args below meth c H locs ls r M9 C ho hP hS hl
  subst hn
  obtain ⟨hx, ho⟩ := ck_some ho
  exact va_iast C.1 C.2.1 C.2.2.2.2.2.2.2.2.1 hP (ws_D E C.2.2.2.2.2.2.2.1 M) hS b 0 (by rw [ws_get E M hb, cE_row E M hlay]) rfl (inb_in hx) hd (fun H1 locs1 hP1 hD1 hS1 => kk (wr M b (ix i) x) p e s m args below meth c H1 locs1 ls r M9 C ho (by rw [ws_row E M hb hlay] at hP1; exact hP1) hS1 hl)
theorem zz_alen {ρ : Type} {E : EV} {l : Launch} {own : String} {cc : ByteArray} {nL : Nat} {ret : Option FieldType} {ws : List Cond} {rm : Room} {vl : ρ → Option Value} {M : Mem} {lv : List (Nat × Value)} {pc npc : Nat} {st : List Value} {o : Option (ρ × Mem)} {b n : Nat} (v : Int32) (hb : b < NC) (hlay : lay b = (1, n, [])) (hv : Int32.ofNat n = v) (hd : decode cc pc = .ok (.arraylength, 1)) (hn : pc + 1 = npc) (kk : ZZ E l own cc nL ret ws rm vl o M lv npc (.int v :: st)) : ZZ E l own cc nL ret ws rm vl o M lv pc (.ref (eA E b) :: st) := by
  intro p e s m args below meth c H locs ls r M9 C ho hP hS hl
  subst hn
  exact va_alen C.1 C.2.1 C.2.2.2.2.2.2.2.2.1 hP b 0 (x := (n, .inl (M b))) (by rw [ws_get E M hb, cE_row E M hlay]) rfl hv hd (kk p e s m args below meth c H locs ls r M9 C ho hP hS hl)
theorem zz_alenT {ρ : Type} {E : EV} {l : Launch} {own : String} {cc : ByteArray} {nL : Nat} {ret : Option FieldType} {ws : List Cond} {rm : Room} {vl : ρ → Option Value} {M : Mem} {lv : List (Nat × Value)} {pc npc : Nat} {st : List Value} {o : Option (ρ × Mem)} {b n : Nat} (v : Int32) (hb : b < NC) (hlay : lay b = (3, n, [])) (hv : Int32.ofNat n = v) (hd : decode cc pc = .ok (.arraylength, 1)) (hn : pc + 1 = npc) (kk : ZZ E l own cc nL ret ws rm vl o M lv npc (.int v :: st)) : ZZ E l own cc nL ret ws rm vl o M lv pc (.ref (eA E b) :: st) := by
  intro p e s m args below meth c H locs ls r M9 C ho hP hS hl
  subst hn
  exact va_alen C.1 C.2.1 C.2.2.2.2.2.2.2.2.1 hP b 2 (x := (n, .inr (.inr (.inr (.inr (fun i => some (eK E (kst i)))))))) (by rw [ws_get E M hb, cE_st E M hlay]) rfl hv hd (kk p e s m args below meth c H locs ls r M9 C ho hP hS hl)
theorem zz_aaldS {ρ : Type} {E : EV} {l : Launch} {own : String} {cc : ByteArray} {nL : Nat} {ret : Option FieldType} {ws : List Cond} {rm : Room} {vl : ρ → Option Value} {M : Mem} {lv : List (Nat × Value)} {pc npc : Nat} {st : List Value} {o : Option (ρ × Mem)} {b n : Nat} {i : Int32} (hb : b < NC) (hlay : lay b = (2, n, [])) (hd : decode cc pc = .ok (.aaload, 1)) (hn : pc + 1 = npc) (kk : inb i n = true → ZZ E l own cc nL ret ws rm vl o M lv npc (.ref (eA E (48 + 2 * ix i)) :: st)) : ZZ E l own cc nL ret ws rm vl (ck (inb i n) o) M lv pc (.int i :: .ref (eA E b) :: st) := by
  intro p e s m args below meth c H locs ls r M9 C ho hP hS hl
  subst hn
  obtain ⟨hx, ho⟩ := ck_some ho
  exact va_aldq (f := fun i => some (eA E (48 + 2 * i))) C.1 C.2.1 C.2.2.2.2.2.2.2.2.1 hP b 1 (by rw [ws_get E M hb, cE_sh E M hlay]) rfl (inb_in hx) hd (kk hx p e s m args below meth c H locs ls r M9 C ho hP hS hl)
theorem zz_aaldT {ρ : Type} {E : EV} {l : Launch} {own : String} {cc : ByteArray} {nL : Nat} {ret : Option FieldType} {ws : List Cond} {rm : Room} {vl : ρ → Option Value} {M : Mem} {lv : List (Nat × Value)} {pc npc : Nat} {st : List Value} {o : Option (ρ × Mem)} {b n : Nat} {i : Int32} (hb : b < NC) (hlay : lay b = (3, n, [])) (hd : decode cc pc = .ok (.aaload, 1)) (hn : pc + 1 = npc) (kk : inb i n = true → ZZ E l own cc nL ret ws rm vl o M lv npc (.ref (eK E (kst (ix i))) :: st)) : ZZ E l own cc nL ret ws rm vl (ck (inb i n) o) M lv pc (.int i :: .ref (eA E b) :: st) := by
  intro p e s m args below meth c H locs ls r M9 C ho hP hS hl
  subst hn
  obtain ⟨hx, ho⟩ := ck_some ho
  exact va_aldq (f := fun i => some (eK E (kst i))) C.1 C.2.1 C.2.2.2.2.2.2.2.2.1 hP b 2 (by rw [ws_get E M hb, cE_st E M hlay]) rfl (inb_in hx) hd (kk hx p e s m args below meth c H locs ls r M9 C ho hP hS hl)
theorem zz_sub {ρ : Type} {E : EV} {l : Launch} {own : String} {cc : ByteArray} {nL : Nat} {ret : Option FieldType} {ws : List Cond} {rm : Room} {vl : ρ → Option Value} {M : Mem} {lv : List (Nat × Value)} {pc npc : Nat} {st : List Value} {o : Option (ρ × Mem)} {lv1 : List (Nat × Value)} (js : List Nat) (hp : lv_pick lv js = lv1) (kk : ZZ E l own cc nL ret ws rm vl o M lv1 pc st) : ZZ E l own cc nL ret ws rm vl o M lv pc st := by
  intro p e s m args below meth c H locs ls r M9 C ho hP hS hl
  exact kk p e s m args below meth c H locs ls r M9 C ho hP hS (lv_sub hl js hp)
theorem zz_iret {E : EV} {l : Launch} {own : String} {cc : ByteArray} {nL : Nat} {ws : List Cond} {rm : Room} {M : Mem} {lv : List (Nat × Value)} {pc : Nat} {v : Int32} (hd : decode cc pc = .ok (.ireturn, 1)) : ZZ E l own cc nL (some .int) ws rm vI (some (v, M)) M lv pc [.int v] := by
  intro p e s m args below meth c H locs ls r M9 C ho hP hS hl
  cases ho
  exact W.iret (v := v) C.1 C.2.1 C.2.2.1 (fun t ht hW => ⟨⟨rfl, by rw [ht]; exact hP⟩, hS.F ht⟩) hS.2.2 hd C.2.2.2.2.2.2.1
theorem zz_zret {E : EV} {l : Launch} {own : String} {cc : ByteArray} {nL : Nat} {ws : List Cond} {rm : Room} {M : Mem} {lv : List (Nat × Value)} {pc : Nat} {v : Int32} (hd : decode cc pc = .ok (.ireturn, 1)) : ZZ E l own cc nL (some .boolean) ws rm vI (ck (isb v) (some (v, M))) M lv pc [.int v] := by
  intro p e s m args below meth c H locs ls r M9 C ho hP hS hl
  obtain ⟨hx, ho⟩ := ck_some ho
  have hx : v = 0 ∨ v = 1 := of_decide_eq_true hx
  cases ho
  exact W.zret (v := v) C.1 C.2.1 C.2.2.1 (by rcases hx with rfl | rfl <;> rfl) (fun t ht hW => ⟨⟨rfl, by rw [ht]; exact hP⟩, hS.F ht⟩) hS.2.2 hd C.2.2.2.2.2.2.1
theorem zz_lret {E : EV} {l : Launch} {own : String} {cc : ByteArray} {nL : Nat} {ws : List Cond} {rm : Room} {M : Mem} {lv : List (Nat × Value)} {pc : Nat} {v : Int64} (hd : decode cc pc = .ok (.lreturn, 1)) : ZZ E l own cc nL (some .long) ws rm vL (some (v, M)) M lv pc [.long v] := by
  intro p e s m args below meth c H locs ls r M9 C ho hP hS hl
  cases ho
  exact W.lret (v := v) C.1 C.2.1 C.2.2.1 (fun t ht hW => ⟨⟨rfl, by rw [ht]; exact hP⟩, hS.F ht⟩) hS.2.2 hd C.2.2.2.2.2.2.1
theorem zz_vret {E : EV} {l : Launch} {own : String} {cc : ByteArray} {nL : Nat} {ws : List Cond} {rm : Room} {M : Mem} {lv : List (Nat × Value)} {pc : Nat} (hd : decode cc pc = .ok (.return_, 1)) : ZZ E l own cc nL none ws rm vV (some ((), M)) M lv pc [] := by
  intro p e s m args below meth c H locs ls r M9 C ho hP hS hl
  cases ho
  exact W.vret C.1 C.2.1 C.2.2.1 (fun t ht hW => ⟨⟨rfl, by rw [ht]; exact hP⟩, hS.F ht⟩) hS.2.2 hd C.2.2.2.2.2.2.1
theorem zz_none {ρ : Type} {E : EV} {l : Launch} {own : String} {cc : ByteArray} {nL : Nat} {ret : Option FieldType} {ws : List Cond} {rm : Room} {vl : ρ → Option Value} {M : Mem} {lv : List (Nat × Value)} {pc : Nat} {st : List Value} : ZZ E l own cc nL ret ws rm vl none M lv pc st := by
  intro p e s m args below meth c H locs ls r M9 C ho
  cases ho
/-- a method's contract out of its walk -/
theorem ct_of {ρ : Type} {E : EV} {l : Launch} {y : MethodName} {cc : ByteArray} {nL : Nat} {ret : Option FieldType} {ws ws' : List Cond} {rm : Room} {vl : ρ → Option Value} {o : Option (ρ × Mem)} {M : Mem} {vs : List Value} (hy : plainName y.cls = true) (hw : ws = Cond.code y cc nL ret :: ws') (hn : (lg_sl vs).length ≤ nL) (hz : ZZ E l y.cls cc nL ret ws rm vl o M (lv_args 0 vs) 0 []) : CT E l y ws rm vl vs o M := by
  intro hE r M' ho
  refine Met.ofW (cc := cc) (maxL := nL) (ret := ret) hy hw ?_
  intro p e s m args below meth c s₁ B hml hv
  obtain ⟨rfl, hP, hK, hSF⟩ := hv
  have hl := lv_entry vs hn
  rw [lg_entry_eq]
  exact hz p e s m _ below meth c s.heap [] _ r M' ⟨B.exec, B.bytes, B.returns, hml, findClass_of_methodNamed B.named, atoms_spec (ws := ws) B.pre, B.notSynchronized, hE, hK, hSF⟩ ho hP va_S.rf hl
section ZCALL
variable {p : Program} {l : Launch} {e : Env} {R : Room} {s : State} {m : MethodId} {args : Array Value} {below : List Frame} {meth : Method} {c : Code} {H : Heap} {locs : List Loc} {Q : State → Prop}
theorem zw_go {E : EV} {pc : Nat} {ls : Array Slot} {rest st0 : List Value} {a : Array Value} {v : Option Value} {M1 : Mem} (hr : va_Run p l e R s m args below meth c H locs 0 0 0 0 (F0 m pc ls st0) rest (QQ E v M1 a) (AA E)) (hS : va_S (AA E) s.heap H locs)
    (kk : ∀ (H1 : Heap) (locs1 : List Loc), WP E M1 H1 → va_S (AA E) s.heap H1 locs1 → W p l e R s m args below meth c H1 locs1 0 0 Q (F0 m (pc + 3) ls (v.toList ++ rest))) : W p l e R s m args below meth c H locs 0 0 Q (F0 m pc ls st0) := by
  intro T hT X
  obtain ⟨v1, st₀, t, T', L, h0, X', hL, e1, e2, ⟨⟨hv, hp⟩, hz, hk⟩, st⟩ := hr T hT X
  cases hv
  rw [h0] at hz hk
  obtain ⟨t2, a1, b1⟩ := kk T'.heap (locs ++ L) (by rw [e1]; exact hp)
    ⟨Nat.le_trans hS.1 (by rw [e1]; exact hz), fun q h1 h2 => by rw [e1, hk q (Nat.lt_of_lt_of_le h1 hS.1) h2]; exact hS.2.1 q h1 h2, fun q hq => by
      rcases List.mem_append.mp hq with h | h
      · exact hS.2.2 q h
      · exact hL q h⟩ T' rfl X'
  exact ⟨t2, st t2 a1, b1⟩
end ZCALL
theorem zw_B {E : EV} {M : Mem} {s U : State} {H : Heap} {locs : List Loc} (hP : WP E M H) (hK : KK E s) (hF : SF E s s.heap) (hS : va_S (AA E) s.heap H locs) (hU : U.heap = H) (hW : s.WarmedH U.vm) : WB E M U := ⟨by rw [hU]; exact hP, va_K.moved hW.alike hK, by rw [hU]; exact SF.warm hW (hF.kept hS.2.1)⟩

theorem zz_callVi {ρ : Type} {E : EV} {l : Launch} {own : String} {cc : ByteArray} {nL : Nat} {ret : Option FieldType} {ws : List Cond} {rm : Room} {vl : ρ → Option Value} {M : Mem} {lv : List (Nat × Value)} {pc npc : Nat} {st : List Value} {k : Int32 → Mem → Option (ρ × Mem)} {fo : Option (Int32 × Mem)} {y : MethodName} {bytes : ByteArray} {maxL n index : Nat} {retC : Option FieldType} {wsC wsC1 : List Cond} {rmC : Room} {As : List Value} {st0 : List Value} {b ci : Nat} {fs : List (Option Nat)} {q : vw_C} (hb : b < NC) (hlay : lay b = (0, ci, fs)) (hc : vwCl[ci]? = some q) (hG : GoodIn ws (wsV own index q.1 y wsC)) (hw : wsC = Cond.code y bytes maxL retC :: wsC1) (hrc : rmC.cells = 0) (hrs : rmC.slots = 0) (hy : y.cls = q.1 ∧ y.cls ≠ "java/lang/invoke/MethodHandle" ∧ y.cls ≠ "java/lang/invoke/VarHandle" ∧ (parseMethodDescriptor y.desc).map (fun d => d.parameters.length) = some n) (hR : rmC.frames + 1 ≤ rm.frames ∧ 8 + (maxL + 11) + rmC.locals ≤ rm.locals) (hnn : As.length = n) (hst : st0 = As.reverse ++ .ref (eA E b) :: st) (hcat : (st.map fun v => v.category).sum ≤ 8) (hM : CT E l y wsC rmC vI (.ref (eA E b) :: As) fo M) (hd : decode cc pc = .ok (.invokevirtual index, 3)) (hn : pc + 3 = npc) (kk : ∀ (r1 : Int32) (M1 : Mem), fo = some (r1, M1) → ZZ E l own cc nL ret ws rm vl (k r1 M1) M1 lv npc (.int r1 :: st)) : ZZ E l own cc nL ret ws rm vl (bd fo k) M lv pc st0 := by
  intro p e s m args below meth c H locs ls r M9 C ho hP hS hl
  subst hn
  cases hfo : fo with
  | none => rw [hfo] at ho; cases ho
  | some q =>
    obtain ⟨r1, M1⟩ := q
    rw [hfo] at ho
    refine zw_go (rest := st) (va_runV (As := As) (rest := st) ⟨C.1, C.2.1, C.2.2.2.1, C.2.2.2.2.1, C.2.2.2.2.2.1⟩ (hM C.2.2.2.2.2.2.2.1 r1 M1 hfo) (cwV n C.2.2.2.2.2.1 hG hw hrc hrs hy hR) ⟨WB.blind, va_recv (ci := ci) C.2.2.2.2.2.2.2.2.1 hP hc (by rw [ws_get E M hb, cE_obj E M hlay]), fun U hU hW => ⟨rfl, zw_B hP C.2.2.2.2.2.2.2.2.1 C.2.2.2.2.2.2.2.2.2 hS hU hW⟩⟩ rfl hnn hl.1 hst (lv_room hcat) hd ⟨Nat.zero_le _, Nat.zero_le _⟩) hS (fun H1 locs1 hP1 hS1 => ?_)
    exact kk r1 M1 hfo p e s m args below meth c H1 locs1 ls r M9 C ho hP1 hS1 hl
theorem zz_callSi {ρ : Type} {E : EV} {l : Launch} {own : String} {cc : ByteArray} {nL : Nat} {ret : Option FieldType} {ws : List Cond} {rm : Room} {vl : ρ → Option Value} {M : Mem} {lv : List (Nat × Value)} {pc npc : Nat} {st : List Value} {k : Int32 → Mem → Option (ρ × Mem)} {fo : Option (Int32 × Mem)} {y : MethodName} {bytes : ByteArray} {maxL n index : Nat} {retC : Option FieldType} {wsC wsC1 : List Cond} {rmC : Room} {As : List Value} {st0 : List Value} (hG : GoodIn ws (va_wsS own index y wsC)) (hw : wsC = Cond.code y bytes maxL retC :: wsC1) (hrc : rmC.cells = 0) (hrs : rmC.slots = 0) (hy : y.cls ≠ "java/lang/invoke/MethodHandle" ∧ y.cls ≠ "java/lang/invoke/VarHandle" ∧ (parseMethodDescriptor y.desc).map (fun d => d.parameters.length) = some n) (hR : rmC.frames + 1 ≤ rm.frames ∧ 8 + (maxL + 11) + rmC.locals ≤ rm.locals) (hnn : As.length = n) (hst : st0 = As.reverse ++ st) (hcat : (st.map fun v => v.category).sum ≤ 8) (hM : CT E l y wsC rmC vI (As) fo M) (hd : decode cc pc = .ok (.invokestatic index, 3)) (hn : pc + 3 = npc) (kk : ∀ (r1 : Int32) (M1 : Mem), fo = some (r1, M1) → ZZ E l own cc nL ret ws rm vl (k r1 M1) M1 lv npc (.int r1 :: st)) : ZZ E l own cc nL ret ws rm vl (bd fo k) M lv pc st0 := by
  intro p e s m args below meth c H locs ls r M9 C ho hP hS hl
  subst hn
  cases hfo : fo with
  | none => rw [hfo] at ho; cases ho
  | some q =>
    obtain ⟨r1, M1⟩ := q
    rw [hfo] at ho
    refine zw_go (rest := st) (va_runS (As := As) (rest := st) ⟨C.1, C.2.1, C.2.2.2.1, C.2.2.2.2.1, C.2.2.2.2.2.1⟩ (hM C.2.2.2.2.2.2.2.1 r1 M1 hfo) (va_cwS n C.2.2.2.2.2.1 hG hw hrc hrs hy hR) ⟨WB.blind, fun U hU hW => ⟨rfl, zw_B hP C.2.2.2.2.2.2.2.2.1 C.2.2.2.2.2.2.2.2.2 hS hU hW⟩⟩ rfl hnn hl.1 hst (lv_room hcat) hd ⟨Nat.zero_le _, Nat.zero_le _⟩) hS (fun H1 locs1 hP1 hS1 => ?_)
    exact kk r1 M1 hfo p e s m args below meth c H1 locs1 ls r M9 C ho hP1 hS1 hl
theorem zz_callNi {ρ : Type} {E : EV} {l : Launch} {own : String} {cc : ByteArray} {nL : Nat} {ret : Option FieldType} {ws : List Cond} {rm : Room} {vl : ρ → Option Value} {M : Mem} {lv : List (Nat × Value)} {pc npc : Nat} {st : List Value} {k : Int32 → Mem → Option (ρ × Mem)} {fo : Option (Int32 × Mem)} {y : MethodName} {bytes : ByteArray} {maxL n index : Nat} {retC : Option FieldType} {wsC wsC1 : List Cond} {rmC : Room} {As : List Value} {st0 : List Value} {host : String} (hG : GoodIn ws wsC) (hnl : (own, index, y, host) ∈ nestL) (hws : Cond.static y ∈ ws) (hwi : Cond.initialized y.cls ∈ ws) (hw : wsC = Cond.code y bytes maxL retC :: wsC1) (hrc : rmC.cells = 0) (hrs : rmC.slots = 0) (hy : y.cls ≠ "java/lang/invoke/MethodHandle" ∧ y.cls ≠ "java/lang/invoke/VarHandle" ∧ (parseMethodDescriptor y.desc).map (fun d => d.parameters.length) = some n) (hR : rmC.frames + 1 ≤ rm.frames ∧ 8 + (maxL + 11) + rmC.locals ≤ rm.locals) (hnn : As.length = n) (hst : st0 = As.reverse ++ st) (hcat : (st.map fun v => v.category).sum ≤ 8) (hM : CT E l y wsC rmC vI (As) fo M) (hd : decode cc pc = .ok (.invokestatic index, 3)) (hn : pc + 3 = npc) (kk : ∀ (r1 : Int32) (M1 : Mem), fo = some (r1, M1) → ZZ E l own cc nL ret ws rm vl (k r1 M1) M1 lv npc (.int r1 :: st)) : ZZ E l own cc nL ret ws rm vl (bd fo k) M lv pc st0 := by
  intro p e s m args below meth c H locs ls r M9 C ho hP hS hl
  subst hn
  cases hfo : fo with
  | none => rw [hfo] at ho; cases ho
  | some q =>
    obtain ⟨r1, M1⟩ := q
    rw [hfo] at ho
    refine zw_go (rest := st) (va_runSN (host := host) (As := As) (rest := st) ⟨C.1, C.2.1, C.2.2.2.1, C.2.2.2.2.1, C.2.2.2.2.2.1⟩ (hM C.2.2.2.2.2.2.2.1 r1 M1 hfo) ⟨va_cnB n C.2.2.2.2.2.1 hG hw hrc hrs (C.2.2.2.2.2.2.2.2.2.2.2.2.2.2.1 _ hnl) (C.2.2.2.2.2.1 _ hwi) hy hR, C.2.2.2.2.2.1 _ hws, trivial⟩ ⟨WB.blind, fun U hU hW => ⟨rfl, zw_B hP C.2.2.2.2.2.2.2.2.1 C.2.2.2.2.2.2.2.2.2 hS hU hW⟩⟩ rfl hnn hl.1 hst (lv_room hcat) hd ⟨Nat.zero_le _, Nat.zero_le _⟩) hS (fun H1 locs1 hP1 hS1 => ?_)
    exact kk r1 M1 hfo p e s m args below meth c H1 locs1 ls r M9 C ho hP1 hS1 hl
theorem zz_callVv {ρ : Type} {E : EV} {l : Launch} {own : String} {cc : ByteArray} {nL : Nat} {ret : Option FieldType} {ws : List Cond} {rm : Room} {vl : ρ → Option Value} {M : Mem} {lv : List (Nat × Value)} {pc npc : Nat} {st : List Value} {k : Unit → Mem → Option (ρ × Mem)} {fo : Option (Unit × Mem)} {y : MethodName} {bytes : ByteArray} {maxL n index : Nat} {retC : Option FieldType} {wsC wsC1 : List Cond} {rmC : Room} {As : List Value} {st0 : List Value} {b ci : Nat} {fs : List (Option Nat)} {q : vw_C} (hb : b < NC) (hlay : lay b = (0, ci, fs)) (hc : vwCl[ci]? = some q) (hG : GoodIn ws (wsV own index q.1 y wsC)) (hw : wsC = Cond.code y bytes maxL retC :: wsC1) (hrc : rmC.cells = 0) (hrs : rmC.slots = 0) (hy : y.cls = q.1 ∧ y.cls ≠ "java/lang/invoke/MethodHandle" ∧ y.cls ≠ "java/lang/invoke/VarHandle" ∧ (parseMethodDescriptor y.desc).map (fun d => d.parameters.length) = some n) (hR : rmC.frames + 1 ≤ rm.frames ∧ 8 + (maxL + 11) + rmC.locals ≤ rm.locals) (hnn : As.length = n) (hst : st0 = As.reverse ++ .ref (eA E b) :: st) (hcat : (st.map fun v => v.category).sum ≤ 8) (hM : CT E l y wsC rmC vV (.ref (eA E b) :: As) fo M) (hd : decode cc pc = .ok (.invokevirtual index, 3)) (hn : pc + 3 = npc) (kk : ∀ (r1 : Unit) (M1 : Mem), fo = some (r1, M1) → ZZ E l own cc nL ret ws rm vl (k r1 M1) M1 lv npc st) : ZZ E l own cc nL ret ws rm vl (bd fo k) M lv pc st0 := by
  intro p e s m args below meth c H locs ls r M9 C ho hP hS hl
  subst hn
  cases hfo : fo with
  | none => rw [hfo] at ho; cases ho
  | some q =>
    obtain ⟨r1, M1⟩ := q
    rw [hfo] at ho
    refine zw_go (rest := st) (va_runV (As := As) (rest := st) ⟨C.1, C.2.1, C.2.2.2.1, C.2.2.2.2.1, C.2.2.2.2.2.1⟩ (hM C.2.2.2.2.2.2.2.1 r1 M1 hfo) (cwV n C.2.2.2.2.2.1 hG hw hrc hrs hy hR) ⟨WB.blind, va_recv (ci := ci) C.2.2.2.2.2.2.2.2.1 hP hc (by rw [ws_get E M hb, cE_obj E M hlay]), fun U hU hW => ⟨rfl, zw_B hP C.2.2.2.2.2.2.2.2.1 C.2.2.2.2.2.2.2.2.2 hS hU hW⟩⟩ rfl hnn hl.1 hst (lv_room hcat) hd ⟨Nat.zero_le _, Nat.zero_le _⟩) hS (fun H1 locs1 hP1 hS1 => ?_)
    exact kk r1 M1 hfo p e s m args below meth c H1 locs1 ls r M9 C ho hP1 hS1 hl
theorem zz_callSv {ρ : Type} {E : EV} {l : Launch} {own : String} {cc : ByteArray} {nL : Nat} {ret : Option FieldType} {ws : List Cond} {rm : Room} {vl : ρ → Option Value} {M : Mem} {lv : List (Nat × Value)} {pc npc : Nat} {st : List Value} {k : Unit → Mem → Option (ρ × Mem)} {fo : Option (Unit × Mem)} {y : MethodName} {bytes : ByteArray} {maxL n index : Nat} {retC : Option FieldType} {wsC wsC1 : List Cond} {rmC : Room} {As : List Value} {st0 : List Value} (hG : GoodIn ws (va_wsS own index y wsC)) (hw : wsC = Cond.code y bytes maxL retC :: wsC1) (hrc : rmC.cells = 0) (hrs : rmC.slots = 0) (hy : y.cls ≠ "java/lang/invoke/MethodHandle" ∧ y.cls ≠ "java/lang/invoke/VarHandle" ∧ (parseMethodDescriptor y.desc).map (fun d => d.parameters.length) = some n) (hR : rmC.frames + 1 ≤ rm.frames ∧ 8 + (maxL + 11) + rmC.locals ≤ rm.locals) (hnn : As.length = n) (hst : st0 = As.reverse ++ st) (hcat : (st.map fun v => v.category).sum ≤ 8) (hM : CT E l y wsC rmC vV (As) fo M) (hd : decode cc pc = .ok (.invokestatic index, 3)) (hn : pc + 3 = npc) (kk : ∀ (r1 : Unit) (M1 : Mem), fo = some (r1, M1) → ZZ E l own cc nL ret ws rm vl (k r1 M1) M1 lv npc st) : ZZ E l own cc nL ret ws rm vl (bd fo k) M lv pc st0 := by
  intro p e s m args below meth c H locs ls r M9 C ho hP hS hl
  subst hn
  cases hfo : fo with
  | none => rw [hfo] at ho; cases ho
  | some q =>
    obtain ⟨r1, M1⟩ := q
    rw [hfo] at ho
    refine zw_go (rest := st) (va_runS (As := As) (rest := st) ⟨C.1, C.2.1, C.2.2.2.1, C.2.2.2.2.1, C.2.2.2.2.2.1⟩ (hM C.2.2.2.2.2.2.2.1 r1 M1 hfo) (va_cwS n C.2.2.2.2.2.1 hG hw hrc hrs hy hR) ⟨WB.blind, fun U hU hW => ⟨rfl, zw_B hP C.2.2.2.2.2.2.2.2.1 C.2.2.2.2.2.2.2.2.2 hS hU hW⟩⟩ rfl hnn hl.1 hst (lv_room hcat) hd ⟨Nat.zero_le _, Nat.zero_le _⟩) hS (fun H1 locs1 hP1 hS1 => ?_)
    exact kk r1 M1 hfo p e s m args below meth c H1 locs1 ls r M9 C ho hP1 hS1 hl
theorem zz_callNv {ρ : Type} {E : EV} {l : Launch} {own : String} {cc : ByteArray} {nL : Nat} {ret : Option FieldType} {ws : List Cond} {rm : Room} {vl : ρ → Option Value} {M : Mem} {lv : List (Nat × Value)} {pc npc : Nat} {st : List Value} {k : Unit → Mem → Option (ρ × Mem)} {fo : Option (Unit × Mem)} {y : MethodName} {bytes : ByteArray} {maxL n index : Nat} {retC : Option FieldType} {wsC wsC1 : List Cond} {rmC : Room} {As : List Value} {st0 : List Value} {host : String} (hG : GoodIn ws wsC) (hnl : (own, index, y, host) ∈ nestL) (hws : Cond.static y ∈ ws) (hwi : Cond.initialized y.cls ∈ ws) (hw : wsC = Cond.code y bytes maxL retC :: wsC1) (hrc : rmC.cells = 0) (hrs : rmC.slots = 0) (hy : y.cls ≠ "java/lang/invoke/MethodHandle" ∧ y.cls ≠ "java/lang/invoke/VarHandle" ∧ (parseMethodDescriptor y.desc).map (fun d => d.parameters.length) = some n) (hR : rmC.frames + 1 ≤ rm.frames ∧ 8 + (maxL + 11) + rmC.locals ≤ rm.locals) (hnn : As.length = n) (hst : st0 = As.reverse ++ st) (hcat : (st.map fun v => v.category).sum ≤ 8) (hM : CT E l y wsC rmC vV (As) fo M) (hd : decode cc pc = .ok (.invokestatic index, 3)) (hn : pc + 3 = npc) (kk : ∀ (r1 : Unit) (M1 : Mem), fo = some (r1, M1) → ZZ E l own cc nL ret ws rm vl (k r1 M1) M1 lv npc st) : ZZ E l own cc nL ret ws rm vl (bd fo k) M lv pc st0 := by
  intro p e s m args below meth c H locs ls r M9 C ho hP hS hl
  subst hn
  cases hfo : fo with
  | none => rw [hfo] at ho; cases ho
  | some q =>
    obtain ⟨r1, M1⟩ := q
    rw [hfo] at ho
    refine zw_go (rest := st) (va_runSN (host := host) (As := As) (rest := st) ⟨C.1, C.2.1, C.2.2.2.1, C.2.2.2.2.1, C.2.2.2.2.2.1⟩ (hM C.2.2.2.2.2.2.2.1 r1 M1 hfo) ⟨va_cnB n C.2.2.2.2.2.1 hG hw hrc hrs (C.2.2.2.2.2.2.2.2.2.2.2.2.2.2.1 _ hnl) (C.2.2.2.2.2.1 _ hwi) hy hR, C.2.2.2.2.2.1 _ hws, trivial⟩ ⟨WB.blind, fun U hU hW => ⟨rfl, zw_B hP C.2.2.2.2.2.2.2.2.1 C.2.2.2.2.2.2.2.2.2 hS hU hW⟩⟩ rfl hnn hl.1 hst (lv_room hcat) hd ⟨Nat.zero_le _, Nat.zero_le _⟩) hS (fun H1 locs1 hP1 hS1 => ?_)
    exact kk r1 M1 hfo p e s m args below meth c H1 locs1 ls r M9 C ho hP1 hS1 hl
theorem zz_callVl {ρ : Type} {E : EV} {l : Launch} {own : String} {cc : ByteArray} {nL : Nat} {ret : Option FieldType} {ws : List Cond} {rm : Room} {vl : ρ → Option Value} {M : Mem} {lv : List (Nat × Value)} {pc npc : Nat} {st : List Value} {k : Int64 → Mem → Option (ρ × Mem)} {fo : Option (Int64 × Mem)} {y : MethodName} {bytes : ByteArray} {maxL n index : Nat} {retC : Option FieldType} {wsC wsC1 : List Cond} {rmC : Room} {As : List Value} {st0 : List Value} {b ci : Nat} {fs : List (Option Nat)} {q : vw_C} (hb : b < NC) (hlay : lay b = (0, ci, fs)) (hc : vwCl[ci]? = some q) (hG : GoodIn ws (wsV own index q.1 y wsC)) (hw : wsC = Cond.code y bytes maxL retC :: wsC1) (hrc : rmC.cells = 0) (hrs : rmC.slots = 0) (hy : y.cls = q.1 ∧ y.cls ≠ "java/lang/invoke/MethodHandle" ∧ y.cls ≠ "java/lang/invoke/VarHandle" ∧ (parseMethodDescriptor y.desc).map (fun d => d.parameters.length) = some n) (hR : rmC.frames + 1 ≤ rm.frames ∧ 8 + (maxL + 11) + rmC.locals ≤ rm.locals) (hnn : As.length = n) (hst : st0 = As.reverse ++ .ref (eA E b) :: st) (hcat : (st.map fun v => v.category).sum ≤ 8) (hM : CT E l y wsC rmC vL (.ref (eA E b) :: As) fo M) (hd : decode cc pc = .ok (.invokevirtual index, 3)) (hn : pc + 3 = npc) (kk : ∀ (r1 : Int64) (M1 : Mem), fo = some (r1, M1) → ZZ E l own cc nL ret ws rm vl (k r1 M1) M1 lv npc (.long r1 :: st)) : ZZ E l own cc nL ret ws rm vl (bd fo k) M lv pc st0 := by
  intro p e s m args below meth c H locs ls r M9 C ho hP hS hl
  subst hn
  cases hfo : fo with
  | none => rw [hfo] at ho; cases ho
  | some q =>
    obtain ⟨r1, M1⟩ := q
    rw [hfo] at ho
    refine zw_go (rest := st) (va_runV (As := As) (rest := st) ⟨C.1, C.2.1, C.2.2.2.1, C.2.2.2.2.1, C.2.2.2.2.2.1⟩ (hM C.2.2.2.2.2.2.2.1 r1 M1 hfo) (cwV n C.2.2.2.2.2.1 hG hw hrc hrs hy hR) ⟨WB.blind, va_recv (ci := ci) C.2.2.2.2.2.2.2.2.1 hP hc (by rw [ws_get E M hb, cE_obj E M hlay]), fun U hU hW => ⟨rfl, zw_B hP C.2.2.2.2.2.2.2.2.1 C.2.2.2.2.2.2.2.2.2 hS hU hW⟩⟩ rfl hnn hl.1 hst (lv_room hcat) hd ⟨Nat.zero_le _, Nat.zero_le _⟩) hS (fun H1 locs1 hP1 hS1 => ?_)
    exact kk r1 M1 hfo p e s m args below meth c H1 locs1 ls r M9 C ho hP1 hS1 hl
theorem zz_callSl {ρ : Type} {E : EV} {l : Launch} {own : String} {cc : ByteArray} {nL : Nat} {ret : Option FieldType} {ws : List Cond} {rm : Room} {vl : ρ → Option Value} {M : Mem} {lv : List (Nat × Value)} {pc npc : Nat} {st : List Value} {k : Int64 → Mem → Option (ρ × Mem)} {fo : Option (Int64 × Mem)} {y : MethodName} {bytes : ByteArray} {maxL n index : Nat} {retC : Option FieldType} {wsC wsC1 : List Cond} {rmC : Room} {As : List Value} {st0 : List Value} (hG : GoodIn ws (va_wsS own index y wsC)) (hw : wsC = Cond.code y bytes maxL retC :: wsC1) (hrc : rmC.cells = 0) (hrs : rmC.slots = 0) (hy : y.cls ≠ "java/lang/invoke/MethodHandle" ∧ y.cls ≠ "java/lang/invoke/VarHandle" ∧ (parseMethodDescriptor y.desc).map (fun d => d.parameters.length) = some n) (hR : rmC.frames + 1 ≤ rm.frames ∧ 8 + (maxL + 11) + rmC.locals ≤ rm.locals) (hnn : As.length = n) (hst : st0 = As.reverse ++ st) (hcat : (st.map fun v => v.category).sum ≤ 8) (hM : CT E l y wsC rmC vL (As) fo M) (hd : decode cc pc = .ok (.invokestatic index, 3)) (hn : pc + 3 = npc) (kk : ∀ (r1 : Int64) (M1 : Mem), fo = some (r1, M1) → ZZ E l own cc nL ret ws rm vl (k r1 M1) M1 lv npc (.long r1 :: st)) : ZZ E l own cc nL ret ws rm vl (bd fo k) M lv pc st0 := by
  intro p e s m args below meth c H locs ls r M9 C ho hP hS hl
  subst hn
  cases hfo : fo with
  | none => rw [hfo] at ho; cases ho
  | some q =>
    obtain ⟨r1, M1⟩ := q
    rw [hfo] at ho
    refine zw_go (rest := st) (va_runS (As := As) (rest := st) ⟨C.1, C.2.1, C.2.2.2.1, C.2.2.2.2.1, C.2.2.2.2.2.1⟩ (hM C.2.2.2.2.2.2.2.1 r1 M1 hfo) (va_cwS n C.2.2.2.2.2.1 hG hw hrc hrs hy hR) ⟨WB.blind, fun U hU hW => ⟨rfl, zw_B hP C.2.2.2.2.2.2.2.2.1 C.2.2.2.2.2.2.2.2.2 hS hU hW⟩⟩ rfl hnn hl.1 hst (lv_room hcat) hd ⟨Nat.zero_le _, Nat.zero_le _⟩) hS (fun H1 locs1 hP1 hS1 => ?_)
    exact kk r1 M1 hfo p e s m args below meth c H1 locs1 ls r M9 C ho hP1 hS1 hl
theorem zz_callNl {ρ : Type} {E : EV} {l : Launch} {own : String} {cc : ByteArray} {nL : Nat} {ret : Option FieldType} {ws : List Cond} {rm : Room} {vl : ρ → Option Value} {M : Mem} {lv : List (Nat × Value)} {pc npc : Nat} {st : List Value} {k : Int64 → Mem → Option (ρ × Mem)} {fo : Option (Int64 × Mem)} {y : MethodName} {bytes : ByteArray} {maxL n index : Nat} {retC : Option FieldType} {wsC wsC1 : List Cond} {rmC : Room} {As : List Value} {st0 : List Value} {host : String} (hG : GoodIn ws wsC) (hnl : (own, index, y, host) ∈ nestL) (hws : Cond.static y ∈ ws) (hwi : Cond.initialized y.cls ∈ ws) (hw : wsC = Cond.code y bytes maxL retC :: wsC1) (hrc : rmC.cells = 0) (hrs : rmC.slots = 0) (hy : y.cls ≠ "java/lang/invoke/MethodHandle" ∧ y.cls ≠ "java/lang/invoke/VarHandle" ∧ (parseMethodDescriptor y.desc).map (fun d => d.parameters.length) = some n) (hR : rmC.frames + 1 ≤ rm.frames ∧ 8 + (maxL + 11) + rmC.locals ≤ rm.locals) (hnn : As.length = n) (hst : st0 = As.reverse ++ st) (hcat : (st.map fun v => v.category).sum ≤ 8) (hM : CT E l y wsC rmC vL (As) fo M) (hd : decode cc pc = .ok (.invokestatic index, 3)) (hn : pc + 3 = npc) (kk : ∀ (r1 : Int64) (M1 : Mem), fo = some (r1, M1) → ZZ E l own cc nL ret ws rm vl (k r1 M1) M1 lv npc (.long r1 :: st)) : ZZ E l own cc nL ret ws rm vl (bd fo k) M lv pc st0 := by
  intro p e s m args below meth c H locs ls r M9 C ho hP hS hl
  subst hn
  cases hfo : fo with
  | none => rw [hfo] at ho; cases ho
  | some q =>
    obtain ⟨r1, M1⟩ := q
    rw [hfo] at ho
    refine zw_go (rest := st) (va_runSN (host := host) (As := As) (rest := st) ⟨C.1, C.2.1, C.2.2.2.1, C.2.2.2.2.1, C.2.2.2.2.2.1⟩ (hM C.2.2.2.2.2.2.2.1 r1 M1 hfo) ⟨va_cnB n C.2.2.2.2.2.1 hG hw hrc hrs (C.2.2.2.2.2.2.2.2.2.2.2.2.2.2.1 _ hnl) (C.2.2.2.2.2.1 _ hwi) hy hR, C.2.2.2.2.2.1 _ hws, trivial⟩ ⟨WB.blind, fun U hU hW => ⟨rfl, zw_B hP C.2.2.2.2.2.2.2.2.1 C.2.2.2.2.2.2.2.2.2 hS hU hW⟩⟩ rfl hnn hl.1 hst (lv_room hcat) hd ⟨Nat.zero_le _, Nat.zero_le _⟩) hS (fun H1 locs1 hP1 hS1 => ?_)
    exact kk r1 M1 hfo p e s m args below meth c H1 locs1 ls r M9 C ho hP1 hS1 hl
theorem zz_mmax {ρ : Type} {E : EV} {l : Launch} {own : String} {cc : ByteArray} {nL : Nat} {ret : Option FieldType} {ws : List Cond} {rm : Room} {vl : ρ → Option Value} {M : Mem} {lv : List (Nat × Value)} {pc npc : Nat} {st : List Value} {o : Option (ρ × Mem)} {x y : Int32} {index : Nat} (h1 : Cond.methodLink own index Lib.Math.max.name ∈ ws) (h2 : Cond.static Lib.Math.max.name ∈ ws) (h3 : Cond.initialized "java/lang/Math" ∈ ws) (h4 : Cond.code Lib.Math.max.name Lib.Math.max.code 2 (some .int) ∈ ws) (hf : 1 ≤ rm.frames) (hlo : (st.map fun v => v.category).sum + 13 ≤ rm.locals) (hd : decode cc pc = .ok (.invokestatic index, 3)) (hn : pc + 3 = npc) (kk : ZZ E l own cc nL ret ws rm vl o M lv npc (.int (imax x y) :: st)) : ZZ E l own cc nL ret ws rm vl o M lv pc (.int y :: .int x :: st) := by
  intro p e s m args below meth c H locs ls r M9 C ho hP hS hl
  subst hn
  exact va_mmax C.1 C.2.1 (C.2.2.2.1.trans hl.1.symm) C.2.2.2.2.1 (C.2.2.2.2.2.1 _ h1) (C.2.2.2.2.2.1 _ h2) (C.2.2.2.2.2.1 _ h3) (C.2.2.2.2.2.1 _ h4) hf hlo (Nat.zero_le _) (Nat.zero_le _) hd (kk p e s m args below meth c H locs ls r M9 C ho hP hS hl)
theorem zz_mmin {ρ : Type} {E : EV} {l : Launch} {own : String} {cc : ByteArray} {nL : Nat} {ret : Option FieldType} {ws : List Cond} {rm : Room} {vl : ρ → Option Value} {M : Mem} {lv : List (Nat × Value)} {pc npc : Nat} {st : List Value} {o : Option (ρ × Mem)} {x y : Int32} {index : Nat} (h1 : Cond.methodLink own index Lib.Math.min.name ∈ ws) (h2 : Cond.static Lib.Math.min.name ∈ ws) (h3 : Cond.initialized "java/lang/Math" ∈ ws) (h4 : Cond.code Lib.Math.min.name Lib.Math.min.code 2 (some .int) ∈ ws) (hf : 1 ≤ rm.frames) (hlo : (st.map fun v => v.category).sum + 13 ≤ rm.locals) (hd : decode cc pc = .ok (.invokestatic index, 3)) (hn : pc + 3 = npc) (kk : ZZ E l own cc nL ret ws rm vl o M lv npc (.int (imin x y) :: st)) : ZZ E l own cc nL ret ws rm vl o M lv pc (.int y :: .int x :: st) := by
  intro p e s m args below meth c H locs ls r M9 C ho hP hS hl
  subst hn
  exact va_mmin C.1 C.2.1 (C.2.2.2.1.trans hl.1.symm) C.2.2.2.2.1 (C.2.2.2.2.2.1 _ h1) (C.2.2.2.2.2.1 _ h2) (C.2.2.2.2.2.1 _ h3) (C.2.2.2.2.2.1 _ h4) hf hlo (Nat.zero_le _) (Nat.zero_le _) hd (kk p e s m args below meth c H locs ls r M9 C ho hP hS hl)
theorem zz_copy {ρ : Type} {E : EV} {l : Launch} {own : String} {cc : ByteArray} {nL : Nat} {ret : Option FieldType} {ws : List Cond} {rm : Room} {vl : ρ → Option Value} {M : Mem} {lv : List (Nat × Value)} {pc npc : Nat} {st : List Value} {k : Mem → Option (ρ × Mem)} {b0 b1 n0 n1 index : Nat} {sp dp n : Int32} (hb0 : b0 < NC) (hl0 : lay b0 = (1, n0, [])) (hb1 : b1 < NC) (hl1 : lay b1 = (1, n1, [])) (h1 : Cond.methodLink own index arraycopyName ∈ ws) (h2 : Cond.native arraycopyName ∈ ws) (h3 : Cond.static arraycopyName ∈ ws) (h4 : Cond.initialized "java/lang/System" ∈ ws) (hf : 1 ≤ rm.frames) (hlo : (st.map fun v => v.category).sum + (nativeFrameWords "java/lang/System" "arraycopy" 5 + 11) ≤ rm.locals) (hd : decode cc pc = .ok (.invokestatic index, 3)) (hn : pc + 3 = npc) (kk : ∀ M1 : Mem, ZZ E l own cc nL ret ws rm vl (k M1) M1 lv npc st) : ZZ E l own cc nL ret ws rm vl (ck (cpb sp dp n n0 n1) (wm (wrow M b1 (va_cpy (M b0) (M b1) (ix sp) (ix dp) (ix n))) k)) M lv pc (.int n :: .int dp :: .ref (eA E b1) :: .int sp :: .ref (eA E b0) :: st) := by
  intro p e s m args below meth c H locs ls r M9 C ho hP hS hl
  subst hn
  obtain ⟨hx, ho⟩ := ck_some ho
  obtain ⟨g1, g2, g3, g4, g5⟩ := of_decide_eq_true hx
  exact va_copyi C.1 C.2.1 (C.2.2.2.1.trans hl.1.symm) C.2.2.2.2.1 (C.2.2.2.2.2.1 _ h1) (C.2.2.2.2.2.1 _ h2) (C.2.2.2.2.2.1 _ h3) (C.2.2.2.2.2.1 _ h4) C.2.2.2.2.2.2.2.2.1 hP (ws_D E C.2.2.2.2.2.2.2.1 M) hS b0 b1 0 0 (by rw [ws_get E M hb0, cE_row E M hl0]) (by rw [ws_get E M hb1, cE_row E M hl1]) rfl rfl rfl g1 g2 g3 g4 g5 (fun i hi => rfl) hf hlo hd (fun H1 locs1 hP1 hD1 hS1 => kk _ p e s m args below meth c H1 locs1 ls r M9 C ho (by rw [ws_row E M hb1 hl1] at hP1; exact hP1) hS1 hl)
theorem zz_under {ρ : Type} {E : EV} {l : Launch} {own : String} {cc : ByteArray} {nL : Nat} {ret : Option FieldType} {ws : List Cond} {rm : Room} {vl : ρ → Option Value} {M : Mem} {lv : List (Nat × Value)} {pc npc : Nat} {st : List Value} {o : Option (ρ × Mem)} {index : Nat} (hw : Cond.fieldLink own index "SharedShadow$Land" "UNDER" "[I" ∈ ws) (hd : decode cc pc = .ok (.getstatic index, 3)) (hn : pc + 3 = npc) (kk : ZZ E l own cc nL ret ws rm vl o M lv npc (.ref (eU E) :: st)) : ZZ E l own cc nL ret ws rm vl o M lv pc st := by
  intro p e s m args below meth c H locs ls r M9 C ho hP hS hl
  subst hn
  exact va_gets (ref := "SharedShadow$Land") C.1 C.2.1 C.2.2.2.2.2.2.2.2.2.1 hS C.2.2.2.2.1 (C.2.2.2.2.2.1 _ hw) (fun _ h => h) hd (kk p e s m args below meth c H locs ls r M9 C ho hP hS hl)
theorem zz_ialdU {ρ : Type} {E : EV} {l : Launch} {own : String} {cc : ByteArray} {nL : Nat} {ret : Option FieldType} {ws : List Cond} {rm : Room} {vl : ρ → Option Value} {M : Mem} {lv : List (Nat × Value)} {pc npc : Nat} {st : List Value} {o : Option (ρ × Mem)} {i : Int32} (hd : decode cc pc = .ok (.iaload, 1)) (hn : pc + 1 = npc) (kk : ZZ E l own cc nL ret ws rm vl o M lv npc (.int (und (ix i)) :: st)) : ZZ E l own cc nL ret ws rm vl (ck (inb i 7) o) M lv pc (.int i :: .ref (eU E) :: st) := by
  intro p e s m args below meth c H locs ls r M9 C ho hP hS hl
  subst hn
  obtain ⟨hx, ho⟩ := ck_some ho
  have hin := inb_in hx
  have hlt : ix i < 7 := Nat.not_le.mp fun q => hin (Or.inr q)
  obtain ⟨cell, q1, q2, q3, q4, q5, q6, q7⟩ := va_T.kept C.2.2.2.2.2.2.2.2.2.2.1 hS.2.1
  exact W.iald (v := .int (und (ix i))) C.1 C.2.1 q1 q2 q3 (fun h => by rcases h with h | h; exact hin (Or.inl h); exact absurd (Nat.lt_of_lt_of_le hlt q4) (Nat.not_lt.mpr h)) (q6 _ hlt) rfl rfl hd (kk p e s m args below meth c H locs ls r M9 C ho hP hS hl)
theorem zz_getSV {ρ : Type} {E : EV} {l : Launch} {own : String} {cc : ByteArray} {nL : Nat} {ret : Option FieldType} {ws : List Cond} {rm : Room} {vl : ρ → Option Value} {M : Mem} {lv : List (Nat × Value)} {pc npc : Nat} {st : List Value} {o : Option (ρ × Mem)} {j index : Nat} (hj : j < NS) (hw : Cond.fieldLink own index "java/lang/String" "value" "[B" ∈ ws) (hd : decode cc pc = .ok (.getfield index, 3)) (hn : pc + 3 = npc) (kk : ZZ E l own cc nL ret ws rm vl o M lv npc (.ref (eV E j) :: st)) : ZZ E l own cc nL ret ws rm vl o M lv pc (.ref (eK E j) :: st) := by
  intro p e s m args below meth c H locs ls r M9 C ho hP hS hl
  subst hn
  exact vk_getf C.1 C.2.1 (C.2.2.2.2.2.2.2.2.2.2.2.1.1 j hj).2.2.1 hS C.2.2.2.2.1 (C.2.2.2.2.2.1 _ hw) (fun _ h => h) hd (kk p e s m args below meth c H locs ls r M9 C ho hP hS hl)
theorem zz_getSC {ρ : Type} {E : EV} {l : Launch} {own : String} {cc : ByteArray} {nL : Nat} {ret : Option FieldType} {ws : List Cond} {rm : Room} {vl : ρ → Option Value} {M : Mem} {lv : List (Nat × Value)} {pc npc : Nat} {st : List Value} {o : Option (ρ × Mem)} {j index : Nat} (hj : j < NS) (hw : Cond.fieldLink own index "java/lang/String" "coder" "B" ∈ ws) (hd : decode cc pc = .ok (.getfield index, 3)) (hn : pc + 3 = npc) (kk : ZZ E l own cc nL ret ws rm vl o M lv npc (.int 0 :: st)) : ZZ E l own cc nL ret ws rm vl o M lv pc (.ref (eK E j) :: st) := by
  intro p e s m args below meth c H locs ls r M9 C ho hP hS hl
  subst hn
  exact vk_getf C.1 C.2.1 (C.2.2.2.2.2.2.2.2.2.2.2.1.1 j hj).2.1 hS C.2.2.2.2.1 (C.2.2.2.2.2.1 _ hw) (fun _ h => h) hd (kk p e s m args below meth c H locs ls r M9 C ho hP hS hl)
theorem zz_comp {ρ : Type} {E : EV} {l : Launch} {own : String} {cc : ByteArray} {nL : Nat} {ret : Option FieldType} {ws : List Cond} {rm : Room} {vl : ρ → Option Value} {M : Mem} {lv : List (Nat × Value)} {pc npc : Nat} {st : List Value} {o : Option (ρ × Mem)} {index : Nat} (hw : Cond.fieldLink own index "java/lang/String" "COMPACT_STRINGS" "Z" ∈ ws) (hd : decode cc pc = .ok (.getstatic index, 3)) (hn : pc + 3 = npc) (kk : ZZ E l own cc nL ret ws rm vl o M lv npc (.int 1 :: st)) : ZZ E l own cc nL ret ws rm vl o M lv pc st := by
  intro p e s m args below meth c H locs ls r M9 C ho hP hS hl
  subst hn
  exact va_gets (ref := "java/lang/String") C.1 C.2.1 C.2.2.2.2.2.2.2.2.2.2.2.2.1 hS C.2.2.2.2.1 (C.2.2.2.2.2.1 _ hw) (fun _ h => h) hd (kk p e s m args below meth c H locs ls r M9 C ho hP hS hl)
theorem zz_sio {ρ : Type} {E : EV} {l : Launch} {own : String} {cc : ByteArray} {nL : Nat} {ret : Option FieldType} {ws : List Cond} {rm : Room} {vl : ρ → Option Value} {M : Mem} {lv : List (Nat × Value)} {pc npc : Nat} {st : List Value} {o : Option (ρ × Mem)} {index : Nat} (hw : Cond.fieldLink own index "jdk/internal/util/Preconditions" "SIOOBE_FORMATTER" "Ljava/util/function/BiFunction;" ∈ ws) (hd : decode cc pc = .ok (.getstatic index, 3)) (hn : pc + 3 = npc) (kk : ∀ q : Option Nat, ZZ E l own cc nL ret ws rm vl o M lv npc (va_rf q :: st)) : ZZ E l own cc nL ret ws rm vl o M lv pc st := by
  intro p e s m args below meth c H locs ls r M9 C ho hP hS hl
  subst hn
  rcases C.2.2.2.2.2.2.2.2.2.2.2.2.2.1 with hz | ⟨t, hz⟩
  · exact va_gets (ref := "jdk/internal/util/Preconditions") C.1 C.2.1 hz hS C.2.2.2.2.1 (C.2.2.2.2.2.1 _ hw) (fun _ h => h) hd (kk none p e s m args below meth c H locs ls r M9 C ho hP hS hl)
  · exact va_gets (ref := "jdk/internal/util/Preconditions") C.1 C.2.1 hz hS C.2.2.2.2.1 (C.2.2.2.2.2.1 _ hw) (fun _ h => h) hd (kk (some t) p e s m args below meth c H locs ls r M9 C ho hP hS hl)
theorem zz_tlen {ρ : Type} {E : EV} {l : Launch} {own : String} {cc : ByteArray} {nL : Nat} {ret : Option FieldType} {ws : List Cond} {rm : Room} {vl : ρ → Option Value} {M : Mem} {lv : List (Nat × Value)} {pc npc : Nat} {st : List Value} {o : Option (ρ × Mem)} {j : Nat} (hj : j < NS) (hd : decode cc pc = .ok (.arraylength, 1)) (hn : pc + 1 = npc) (kk : ZZ E l own cc nL ret ws rm vl o M lv npc (.int (slN j) :: st)) : ZZ E l own cc nL ret ws rm vl o M lv pc (.ref (eV E j) :: st) := by
  intro p e s m args below meth c H locs ls r M9 C ho hP hS hl
  subst hn
  exact va_tlen C.1 C.2.1 (C.2.2.2.2.2.2.2.2.2.2.2.1.1 j hj).2.2.2 hS rfl hd (kk p e s m args below meth c H locs ls r M9 C ho hP hS hl)
theorem zz_tbl {ρ : Type} {E : EV} {l : Launch} {own : String} {cc : ByteArray} {nL : Nat} {ret : Option FieldType} {ws : List Cond} {rm : Room} {vl : ρ → Option Value} {M : Mem} {lv : List (Nat × Value)} {pc npc : Nat} {st : List Value} {o : Option (ρ × Mem)} {j : Nat} {i : Int32} (hj : j < NS) (hd : decode cc pc = .ok (.baload, 1)) (hn : pc + 1 = npc) (kk : ZZ E l own cc nL ret ws rm vl o M lv npc (.int (sby j (ix i)) :: st)) : ZZ E l own cc nL ret ws rm vl (ck (inb i (slen.getD j 0)) o) M lv pc (.int i :: .ref (eV E j) :: st) := by
  intro p e s m args below meth c H locs ls r M9 C ho hP hS hl
  subst hn
  obtain ⟨hx, ho⟩ := ck_some ho
  exact va_tb C.1 C.2.1 (C.2.2.2.2.2.2.2.2.2.2.2.1.1 j hj).2.2.2 hS (inb_in hx) rfl hd (kk p e s m args below meth c H locs ls r M9 C ho hP hS hl)
theorem zz_i2c {ρ : Type} {E : EV} {l : Launch} {own : String} {cc : ByteArray} {nL : Nat} {ret : Option FieldType} {ws : List Cond} {rm : Room} {vl : ρ → Option Value} {M : Mem} {lv : List (Nat × Value)} {pc npc : Nat} {st : List Value} {o : Option (ρ × Mem)} {x : Int32} (hd : decode cc pc = .ok (.i2c, 1)) (hn : pc + 1 = npc) (kk : ZZ E l own cc nL ret ws rm vl o M lv npc (.int (i2c x) :: st)) : ZZ E l own cc nL ret ws rm vl o M lv pc (.int x :: st) := by
  intro p e s m args below meth c H locs ls r M9 C ho hP hS hl
  subst hn
  exact lv_i2c C.1 C.2.1 hd rfl (kk p e s m args below meth c H locs ls r M9 C ho hP hS hl)
theorem zz_cret {E : EV} {l : Launch} {own : String} {cc : ByteArray} {nL : Nat} {ws : List Cond} {rm : Room} {M : Mem} {lv : List (Nat × Value)} {pc : Nat} {v : Int32} (hd : decode cc pc = .ok (.ireturn, 1)) : ZZ E l own cc nL (some .char) ws rm vI (ck (isc v) (some (v, M))) M lv pc [.int v] := by
  intro p e s m args below meth c H locs ls r M9 C ho hP hS hl
  obtain ⟨hx, ho⟩ := ck_some ho
  have hx : ¬ v < 0 ∧ v ≤ 65535 := of_decide_eq_true hx
  obtain ⟨q, hq, rfl⟩ := nI_of2 (M := 65535) (n := 65535) (by decide) hx.1 hx.2
  have hn := (pk_charN (q := q) (by omega)).1
  cases ho
  exact W.zret C.1 C.2.1 C.2.2.1 hn (fun t ht hW => ⟨⟨rfl, by rw [ht]; exact hP⟩, hS.F ht⟩) hS.2.2 hd C.2.2.2.2.2.2.1
theorem zz_bret {E : EV} {l : Launch} {own : String} {cc : ByteArray} {nL : Nat} {ws : List Cond} {rm : Room} {M : Mem} {lv : List (Nat × Value)} {pc : Nat} {v : Int32} (hd : decode cc pc = .ok (.ireturn, 1)) : ZZ E l own cc nL (some .byte) ws rm vI (ck (isb v) (some (v, M))) M lv pc [.int v] := by
  intro p e s m args below meth c H locs ls r M9 C ho hP hS hl
  obtain ⟨hx, ho⟩ := ck_some ho
  have hx : v = 0 ∨ v = 1 := of_decide_eq_true hx
  have hn : narrow .byte (.int v) = .int v := by rcases hx with rfl | rfl <;> rfl
  cases ho
  exact W.zret C.1 C.2.1 C.2.2.1 hn (fun t ht hW => ⟨⟨rfl, by rw [ht]; exact hP⟩, hS.F ht⟩) hS.2.2 hd C.2.2.2.2.2.2.1
theorem zz_callTi {ρ : Type} {E : EV} {l : Launch} {own : String} {cc : ByteArray} {nL : Nat} {ret : Option FieldType} {ws : List Cond} {rm : Room} {vl : ρ → Option Value} {M : Mem} {lv : List (Nat × Value)} {pc npc : Nat} {st : List Value} {k : Int32 → Mem → Option (ρ × Mem)} {fo : Option (Int32 × Mem)} {y : MethodName} {bytes : ByteArray} {maxL n index : Nat} {retC : Option FieldType} {wsC wsC1 : List Cond} {rmC : Room} {As : List Value} {st0 : List Value} {j : Nat} {C0 : String} (hj : j < NS) (hC0 : C0 = "java/lang/String") (hG : GoodIn ws (wsV own index C0 y wsC)) (hw : wsC = Cond.code y bytes maxL retC :: wsC1) (hrc : rmC.cells = 0) (hrs : rmC.slots = 0) (hy : y.cls = C0 ∧ y.cls ≠ "java/lang/invoke/MethodHandle" ∧ y.cls ≠ "java/lang/invoke/VarHandle" ∧ (parseMethodDescriptor y.desc).map (fun d => d.parameters.length) = some n) (hR : rmC.frames + 1 ≤ rm.frames ∧ 8 + (maxL + 11) + rmC.locals ≤ rm.locals) (hnn : As.length = n) (hst : st0 = As.reverse ++ .ref (eK E j) :: st) (hcat : (st.map fun v => v.category).sum ≤ 8) (hM : CT E l y wsC rmC vI (.ref (eK E j) :: As) fo M) (hd : decode cc pc = .ok (.invokevirtual index, 3)) (hn : pc + 3 = npc) (kk : ∀ (r1 : Int32) (M1 : Mem), fo = some (r1, M1) → ZZ E l own cc nL ret ws rm vl (k r1 M1) M1 lv npc (.int r1 :: st)) : ZZ E l own cc nL ret ws rm vl (bd fo k) M lv pc st0 := by
  intro p e s m args below meth c H locs ls r M9 C ho hP hS hl
  subst hn
  cases hfo : fo with
  | none => rw [hfo] at ho; cases ho
  | some q =>
    obtain ⟨r1, M1⟩ := q
    rw [hfo] at ho
    refine zw_go (rest := st) (va_runV (As := As) (rest := st) ⟨C.1, C.2.1, C.2.2.2.1, C.2.2.2.2.1, C.2.2.2.2.2.1⟩ (hM C.2.2.2.2.2.2.2.1 r1 M1 hfo) (cwV n C.2.2.2.2.2.1 hG hw hrc hrs hy hR) ⟨WB.blind, (by rw [hC0]; exact vk_recv C.2.2.2.2.2.2.2.2.2.2.2.1 hj hS), fun U hU hW => ⟨rfl, zw_B hP C.2.2.2.2.2.2.2.2.1 C.2.2.2.2.2.2.2.2.2 hS hU hW⟩⟩ rfl hnn hl.1 hst (lv_room hcat) hd ⟨Nat.zero_le _, Nat.zero_le _⟩) hS (fun H1 locs1 hP1 hS1 => ?_)
    exact kk r1 M1 hfo p e s m args below meth c H1 locs1 ls r M9 C ho hP1 hS1 hl
def isLd (b : Nat) : Prop := b = 1 ∨ b = 8 ∨ b = 16 ∨ b = 36
def isSh (b : Nat) : Prop := b = 48 ∨ b = 50 ∨ b = 52 ∨ b = 54
theorem ld_lt {b : Nat} (h : isLd b) : b + 6 < NC := by rcases h with rfl | rfl | rfl | rfl <;> decide
theorem ld_lt0 {b : Nat} (h : isLd b) : b < NC := by have := ld_lt h; omega
theorem ld_o {b : Nat} (h : isLd b) : lay b = (0, 1, [some (b + 1), some (b + 2), some (b + 3), some (b + 4), some (b + 5), some (b + 6), none, none, none, none, none, none]) := by rcases h with rfl | rfl | rfl | rfl <;> rfl
theorem ld_lt1 {b : Nat} (h : isLd b) : b + 1 < NC := by have := ld_lt h; omega
theorem ld_a1 {b : Nat} (h : isLd b) : lay (b + 1) = (1, 8, []) := by rcases h with rfl | rfl | rfl | rfl <;> rfl
theorem ld_lt2 {b : Nat} (h : isLd b) : b + 2 < NC := by have := ld_lt h; omega
theorem ld_a2 {b : Nat} (h : isLd b) : lay (b + 2) = (1, 8, []) := by rcases h with rfl | rfl | rfl | rfl <;> rfl
theorem ld_lt3 {b : Nat} (h : isLd b) : b + 3 < NC := by have := ld_lt h; omega
theorem ld_a3 {b : Nat} (h : isLd b) : lay (b + 3) = (1, 8, []) := by rcases h with rfl | rfl | rfl | rfl <;> rfl
theorem ld_lt4 {b : Nat} (h : isLd b) : b + 4 < NC := by have := ld_lt h; omega
theorem ld_a4 {b : Nat} (h : isLd b) : lay (b + 4) = (1, 8, []) := by rcases h with rfl | rfl | rfl | rfl <;> rfl
theorem ld_lt5 {b : Nat} (h : isLd b) : b + 5 < NC := by have := ld_lt h; omega
theorem ld_a5 {b : Nat} (h : isLd b) : lay (b + 5) = (1, 8, []) := by rcases h with rfl | rfl | rfl | rfl <;> rfl
theorem ld_lt6 {b : Nat} (h : isLd b) : b + 6 < NC := by have := ld_lt h; omega
theorem ld_a6 {b : Nat} (h : isLd b) : lay (b + 6) = (1, 10, []) := by rcases h with rfl | rfl | rfl | rfl <;> rfl
theorem sh_lt0 {b : Nat} (h : isSh b) : b < NC := by rcases h with rfl | rfl | rfl | rfl <;> decide
theorem sh_lt1 {b : Nat} (h : isSh b) : b + 1 < NC := by rcases h with rfl | rfl | rfl | rfl <;> decide
theorem sh_o {b : Nat} (h : isSh b) : lay b = (0, 5, [some (b + 1), none, none]) := by rcases h with rfl | rfl | rfl | rfl <;> rfl
theorem sh_a1 {b : Nat} (h : isSh b) : lay (b + 1) = (1, 40, []) := by rcases h with rfl | rfl | rfl | rfl <;> rfl
theorem ld_c1 : isLd 1 := by unfold isLd; decide
theorem ld_c8 : isLd 8 := by unfold isLd; decide
theorem ld_c16 : isLd 16 := by unfold isLd; decide
theorem ld_c36 : isLd 36 := by unfold isLd; decide
theorem sh_c48 : isSh 48 := by unfold isSh; decide
theorem sh_c50 : isSh 50 := by unfold isSh; decide
theorem sh_c52 : isSh 52 := by unfold isSh; decide
theorem sh_c54 : isSh 54 := by unfold isSh; decide
theorem kst_ix {i : Int32} (h : inb i 7 = true) : kst (ix i) < NS := by
  have h1 := inb_in h
  have h2 : ix i < 7 := Nat.not_le.mp fun q => h1 (Or.inr q)
  show ix i < 13
  omega
theorem sh_ix {i : Int32} (h : inb i 4 = true) : isSh (48 + 2 * ix i) := by
  have h1 := inb_in h
  have h2 : ix i < 4 := Nat.not_le.mp fun q => h1 (Or.inr q)
  unfold isSh
  omega

/-! what the start gives -/
theorem st_eq {args : Array Value} {s : State} {t u : Term} {a : Nat} (h : (Cond.eq t u).before args s = true) (ht : t.eval args s none [] s = some (.ref a)) : u.eval args s none [] s = some (.ref a) := by
  cases hv : u.eval args s none [] s with
  | none => simp [Cond.before, Cond.holds, Cond.value, ht, hv] at h
  | some w =>
    simp only [Cond.before, Cond.holds, Cond.value, ht, hv] at h
    cases w <;> simp_all
theorem st_nq {args : Array Value} {s : State} {t u : Term} {a b : Nat} (ht : t.eval args s none [] s = some (.ref a)) (hu : u.eval args s none [] s = some (.ref b)) (h : a ≠ b) : (Cond.not (.eq t u)).before args s = true := by
  simp [Cond.before, Cond.holds, Cond.value, ht, hu, h]
theorem st_len {args : Array Value} {s : State} {t u : Term} (h : t.eval args s none [] s = u.eval args s none [] s) : (Term.length t).eval args s none [] s = (Term.length u).eval args s none [] s := by
  simp only [Term.eval, h]
theorem st_el {args : Array Value} {s : State} {t u i : Term} (h : t.eval args s none [] s = u.eval args s none [] s) : (Term.elem t i).eval args s none [] s = (Term.elem u i).eval args s none [] s := by
  simp only [Term.eval, h]
theorem st_ne {args : Array Value} {s : State} {t u : Term} {n k x y : Int32} (ht : (Cond.exactly t "java/lang/String").before args s = true) (hu : (Cond.exactly u "java/lang/String").before args s = true) (hn : (Cond.eq (.length (.field t "java/lang/String" "value" "[B")) (.int n)).before args s = true) (hk : (Cond.eq (.length (.field u "java/lang/String" "value" "[B")) (.int k)).before args s = true) (hx : (Cond.eq (.elem (.field t "java/lang/String" "value" "[B") (.int (Int32.ofNat 0))) (.int x)).before args s = true) (hy : (Cond.eq (.elem (.field u "java/lang/String" "value" "[B") (.int (Int32.ofNat 0))) (.int y)).before args s = true) (hd : n ≠ k ∨ x ≠ y) : (Cond.not (.eq t u)).before args s = true := by
  obtain ⟨a, _, _, _, q1, _⟩ := Cond.exactly_spec (args := args) (first := s) (o := none) (s := s) (idx := []) (t := t) (cls := "java/lang/String") ht
  obtain ⟨b, _, _, _, q2, _⟩ := Cond.exactly_spec (args := args) (first := s) (o := none) (s := s) (idx := []) (t := u) (cls := "java/lang/String") hu
  refine st_nq q1 q2 fun e => ?_
  subst e
  have hf : (Term.field t "java/lang/String" "value" "[B").eval args s none [] s = (Term.field u "java/lang/String" "value" "[B").eval args s none [] s := by rw [va_fe q1, va_fe q2]
  rcases hd with hd | hd
  · have h1 := va_eqt hn
    rw [st_len hf, va_eqt hk] at h1
    cases h1
    exact hd rfl
  · have h1 := va_eqt hx
    rw [st_el hf, va_eqt hy] at h1
    cases h1
    exact hd rfl
def stI : List Nat := [163, 165, 167, 169, 171, 173, 175, 129, 137, 141, 95, 104, 109]
def stJ : List Nat := [39, 41, 43, 45, 47, 49, 51, 309, 314, 316, 322, 327, 329]
def stT (i : Nat) : Term := Term.string "SharedShadow$Reader" (stI.getD i 0)
def stG : Cond := Jvm.Cond.and given_1 narrow_1
theorem stE : ∀ i, i < 13 → Cond.exactly (stT i) "java/lang/String" ∈ flatC stG := by decide +kernel
theorem stC : ∀ i, i < 13 → Cond.eq (.field (stT i) "java/lang/String" "coder" "B") (.int 0) ∈ flatC stG := by decide +kernel
theorem stA : ∀ i, i < 13 → Cond.arrayOf (.field (stT i) "java/lang/String" "value" "[B") .byte ∈ flatC stG := by decide +kernel
theorem stL : ∀ i, i < 13 → Cond.eq (.length (.field (stT i) "java/lang/String" "value" "[B")) (.int (Int32.ofNat (slen.getD i 0))) ∈ flatC stG := by decide +kernel
theorem stB : ∀ i, i < 13 → ∀ j, j < slen.getD i 0 → Cond.eq (.elem (.field (stT i) "java/lang/String" "value" "[B") (.int (Int32.ofNat j))) (.int ((sbyt.getD i []).getD j 0)) ∈ flatC stG := by decide +kernel
theorem stM : ∀ i, i < 13 → Cond.eq (stT i) (Term.string "SharedShadowModel" (stJ.getD i 0)) ∈ flatC stG := by decide +kernel
theorem stP : ∀ i, i < 13 → 0 < slen.getD i 0 := by decide +kernel
theorem stD : ∀ i, i < 13 → ∀ j, j < 13 → i ≠ j → Int32.ofNat (slen.getD i 0) ≠ Int32.ofNat (slen.getD j 0) ∨ (sbyt.getD i []).getD 0 0 ≠ (sbyt.getD j []).getD 0 0 := by decide +kernel
theorem stU : ∀ j, j < 7 → Cond.eq (.elem (.static "SharedShadow$Land" "UNDER" "[I") (.int (Int32.ofNat j))) (.int (und j)) ∈ flatC stG := by decide +kernel
theorem stNw : ∀ q ∈ nestL, Cond.methodLinkNest q.1 q.2.1 q.2.2.1 q.2.2.2 ∈ lw_tbl := by decide +kernel
theorem stR : ∀ q ∈ srefL, Cond.stringRef q.1 q.2.1 q.2.2.1 ∈ lw_tbl := by decide +kernel
theorem stZ : ∀ w ∈ ([.laysStatic "SharedShadow$Land" "UNDER" "[I", .initialized "SharedShadow$Land", .laysStatic "java/lang/String" "COMPACT_STRINGS" "Z", .initialized "java/lang/String", .laysStatic "jdk/internal/util/Preconditions" "SIOOBE_FORMATTER" "Ljava/util/function/BiFunction;", .initialized "jdk/internal/util/Preconditions", .arrayOver (.object RX5), .arrayOver (.object RJ0)] : List Cond), w ∈ lw_tbl := by decide +kernel
theorem stY : ∀ w ∈ ([.eq (.static "java/lang/String" "COMPACT_STRINGS" "Z") (.int 1), .isRef (.static "jdk/internal/util/Preconditions" "SIOOBE_FORMATTER" "Ljava/util/function/BiFunction;"), .arrayOf (.static "SharedShadow$Land" "UNDER" "[I") .int, .eq (.length (.static "SharedShadow$Land" "UNDER" "[I")) (.int (Int32.ofNat 7))] : List Cond), w ∈ flatC stG := by decide +kernel
theorem st_str {args : Array Value} {s : State} {A : Nat → Prop} (hA : ∀ a : Nat, a < s.heap.size → ¬ A a) (hs : ∀ w ∈ flatC stG, w.before args s = true) : ∃ ek ev : Nat → Nat, vk_S NS slen sbyt ek ev A s s.heap ∧ ∀ q ∈ srefL, (Term.string q.1 q.2.1).eval args s none [] s = some (.ref (ek q.2.2.2)) := by
  obtain ⟨ek, ev, h1, he⟩ := vk_Sof (tm := stT) (len := slen) (byt := sbyt) (N := NS) (args := args) (s := s) (A := A) (by decide +kernel) (fun i hi => hs _ (stE i hi)) (fun i hi => hs _ (stC i hi)) (fun i hi => hs _ (stA i hi)) (fun i hi => hs _ (stL i hi)) (fun i hi j hj => hs _ (stB i hi j hj)) (fun i j hi hj hij => Or.inl (st_ne (hs _ (stE i hi)) (hs _ (stE j hj)) (hs _ (stL i hi)) (hs _ (stL j hj)) (hs _ (stB i hi 0 (stP i hi))) (hs _ (stB j hj 0 (stP j hj))) (stD i hi j hj hij))) hA
  refine ⟨ek, ev, h1, ?_⟩
  exact List.forall_mem_cons.mpr ⟨he 0 (by decide), List.forall_mem_cons.mpr ⟨he 1 (by decide), List.forall_mem_cons.mpr ⟨he 2 (by decide), List.forall_mem_cons.mpr ⟨he 3 (by decide), List.forall_mem_cons.mpr ⟨he 4 (by decide), List.forall_mem_cons.mpr ⟨he 5 (by decide), List.forall_mem_cons.mpr ⟨he 6 (by decide), List.forall_mem_cons.mpr ⟨he 7 (by decide), List.forall_mem_cons.mpr ⟨he 8 (by decide), List.forall_mem_cons.mpr ⟨he 9 (by decide), List.forall_mem_cons.mpr ⟨he 10 (by decide), List.forall_mem_cons.mpr ⟨he 11 (by decide), List.forall_mem_cons.mpr ⟨he 12 (by decide), List.forall_mem_cons.mpr ⟨st_eq (hs _ (stM 0 (by decide))) (he 0 (by decide)), List.forall_mem_cons.mpr ⟨st_eq (hs _ (stM 1 (by decide))) (he 1 (by decide)), List.forall_mem_cons.mpr ⟨st_eq (hs _ (stM 2 (by decide))) (he 2 (by decide)), List.forall_mem_cons.mpr ⟨st_eq (hs _ (stM 3 (by decide))) (he 3 (by decide)), List.forall_mem_cons.mpr ⟨st_eq (hs _ (stM 4 (by decide))) (he 4 (by decide)), List.forall_mem_cons.mpr ⟨st_eq (hs _ (stM 5 (by decide))) (he 5 (by decide)), List.forall_mem_cons.mpr ⟨st_eq (hs _ (stM 6 (by decide))) (he 6 (by decide)), List.forall_mem_cons.mpr ⟨st_eq (hs _ (stM 7 (by decide))) (he 7 (by decide)), List.forall_mem_cons.mpr ⟨st_eq (hs _ (stM 8 (by decide))) (he 8 (by decide)), List.forall_mem_cons.mpr ⟨st_eq (hs _ (stM 9 (by decide))) (he 9 (by decide)), List.forall_mem_cons.mpr ⟨st_eq (hs _ (stM 10 (by decide))) (he 10 (by decide)), List.forall_mem_cons.mpr ⟨st_eq (hs _ (stM 11 (by decide))) (he 11 (by decide)), List.forall_mem_cons.mpr ⟨st_eq (hs _ (stM 12 (by decide))) (he 12 (by decide)), (List.forall_mem_nil _)⟩⟩⟩⟩⟩⟩⟩⟩⟩⟩⟩⟩⟩⟩⟩⟩⟩⟩⟩⟩⟩⟩⟩⟩⟩⟩
theorem ao_K {C : String} {s : State} (h : va_AO C s) : ∃ cA : ClassId, ArrOfT s cA (.object C) ∧ va_RA s cA (.object C) := by
  obtain ⟨comp, c, k, h1, h2, h3, h4, h5⟩ := Cond.arrayOver_spec h
  exact ⟨c, fun n z => ⟨fun k h => (by cases h), k, h3, comp, h4⟩, k, comp, h3, h4, h1, h5⟩
theorem ao_eq {C : String} {s t : State} {c c' : ClassId} (hvm : s.vm.Alike t.vm) (h1 : va_RA s c (.object C)) (h2 : va_RA t c' (.object C)) : c' = c := by
  obtain ⟨_, _, _, _, _, h5⟩ := h1
  obtain ⟨_, _, _, _, _, h9⟩ := h2
  rw [hvm.findClass] at h9
  exact Option.some.inj (h9.symm.trans h5)

/-! the first world stands: on with the loop -/
theorem start_go {p : Program} {l : Launch} {e : Env} {s : State} {m : MethodId} {below : List Frame} {meth : Method} {c : Code} {b L : Nat} {xs : Nat → Int32} {dC : Nat → ClassId} {dI : Nat → Nat → Nat} {cI cS cT : ClassId} {ek ev : Nat → Nat} {uu : Nat} {u : (Nat → Int32) × (Nat → Int32) × (Nat → Int32) × (Nat → Int32)} {fm : Nat → Int32} {A : Nat → Prop} {E : EV} {H : Heap} {locs : List Loc} {ls : Array Slot} (hAe : A = fun q : Nat => s.heap.size ≤ q) (hx : p.tables.exec = Jvm.exec) (hb : c.code = code) (hr : meth.sig.returnType = ret) (hml : c.maxLocals = 4) (hown : s.vm.findClass R_law = some m.cls) (hts : ∀ w ∈ wsL_law, w.before #[Value.ref b] s = true) (hX : va_X b L xs s s.heap) (hbl : b < s.heap.size) (hlk : meth.locks = false) (hL : L ≤ 3072)
    (hK3 : va_K (dC, dI) vwCl [(cI, .int), (cS, .object RX5), (cT, .object RJ0)] s) (hZU : va_Z "SharedShadow$Land" "UNDER" "[I" (.ref uu) A s s.heap) (hTU : va_T .int uu 7 (fun j => .int (und j)) A s s.heap) (hVS : vk_S NS slen sbyt ek ev A s s.heap) (hZC : va_Z "java/lang/String" "COMPACT_STRINGS" "Z" (.int 1) A s s.heap) (hZq : va_Zq "jdk/internal/util/Preconditions" "SIOOBE_FORMATTER" "Ljava/util/function/BiFunction;" A s s.heap) (hN : XNest s) (hVR : ∀ q ∈ srefL, vk_R q.1 q.2.1 q.2.2.1 (ek q.2.2.2) s)
    (eDe : eD E = (dC, dI)) (eIe : eI E = cI) (eSe : eS E = cS) (eTe : eT E = cT) (eKe : eK E = ek) (eVe : eV E = ev) (eUe : eU E = uu) (hWP : WP E (firM u fm) H) (hOk : OkE E) (hAA : ∀ q, AA E q → A q) (hu1 : ∀ j, j < 10 → u.1 j = -1) (hw : ∀ j, fm j = if 6 ≤ j ∧ j < 16 then -1 else if j = 3 then 65535 else if j = 5 then 1 else 0) (hl : lv_has ls 4 [(3, .int 0), (2, .ref (eA E 57)), (1, .ref (eA E 0)), (0, .ref b)]) (hS : va_S A s.heap H locs) : W p l e room_1 s m #[Value.ref b] below meth c H locs 73 3291 (lw_Z below #[Value.ref b] s) (F0 m 18 ls []) := by
  have hA2 : ∀ q : Nat, A q → s.heap.size ≤ q := fun q h => by rw [hAe] at h; exact h
  have hKK : KK E s := by
    have h := hK3
    rw [← eDe, ← eIe, ← eSe, ← eTe] at h
    exact h
  have hSF : SF E s s.heap := by
    subst eUe eKe eVe
    exact ⟨hZU.narrow hAA, hTU.narrow hAA, hVS.narrow hAA, hZC.narrow hAA, hZq.narrow hAA, hN, hVR⟩
  have hl : lv_has ls 4 [(3, .int (nI 0)), (0, .ref b), (1, .ref (eA E 0)), (2, .ref (eA E 57))] := by
    refine ⟨hl.1, hl.2.1, fun q hq => hl.2.2 q ?_⟩
    simp only [List.mem_cons, List.not_mem_nil, or_false] at hq ⊢
    rcases hq with h | h | h | h
    · exact Or.inl h
    · exact Or.inr (Or.inr (Or.inr h))
    · exact Or.inr (Or.inr (Or.inl h))
    · exact Or.inr (Or.inl h)
  subst hAe
  have C : LX p l s m meth c b L xs E := ⟨hx, hb, hr, hml, hown, hts, hX, hbl, hlk, hOk, hKK, hSF, fun q h => hA2 q (hAA q h), hL⟩
  exact law_loop C (L + 1) 0 (firM u fm) firS (Nat.zero_le _) (by omega) (fir_ac hu1) (fir_ar hw) fir_wf H locs ls hWP hS hl

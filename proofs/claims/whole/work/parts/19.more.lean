/-- ldc_w of a String constant -/
theorem zz_ldcwS {ρ : Type} {E : EV} {l : Launch} {own : String} {cc : ByteArray} {nL : Nat} {ret : Option FieldType} {ws : List Cond} {rm : Room} {vl : ρ → Option Value} {M : Mem} {lv : List (Nat × Value)} {pc npc : Nat} {st : List Value} {o : Option (ρ × Mem)} {index j : Nat} {tx : String} (hw : (own, index, tx, j) ∈ srefL) (hd : decode cc pc = .ok (.ldc_w index, 3)) (hn : pc + 3 = npc) (kk : ZZ E l own cc nL ret ws rm vl o M lv npc (.ref (eK E j) :: st)) : ZZ E l own cc nL ret ws rm vl o M lv pc st := by
  intro p e s m args below meth c H locs ls r M9 C ho hP hS hl
  subst hn
  have hZ : vk_R own index tx (eK E j) s := C.2.2.2.2.2.2.2.2.2.2.2.2.2.2.2 _ hw
  intro T hT X
  obtain ⟨t, a1, b1⟩ := kk p e s m args below meth c H locs ls r M9 C ho hP hS hl T hT X
  exact ⟨t, X.ldcStringW C.1 C.2.2.2.2.1 (text := tx) (a := eK E j) hZ.1 hZ.2 (g := F0 m pc ls st) rfl (by rw [C.2.1]; exact hd) t a1, b1⟩

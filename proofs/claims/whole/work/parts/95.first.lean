/-! the first world, the first state -/
def adrF (l : List Nat) : Nat → Nat := fun k => l.getD k 0
def firE (dC : Nat → ClassId) (dI : Nat → Nat → Nat) (l : List Nat) (cI cS cT : ClassId) (ek ev : Nat → Nat) (uu : Nat) : EV := ((dC, dI), adrF l, (cI, cS, cT), ek, ev, uu)
def firM (u : (Nat → Int32) × (Nat → Int32) × (Nat → Int32) × (Nat → Int32)) (fm : Nat → Int32) : Mem := fun k => if k = 7 then u.1 else if k = 14 then u.2.1 else if k = 22 then u.2.2.1 else if k = 42 then u.2.2.2 else if k = 58 then fm else if k = 1 ∨ k = 8 ∨ k = 16 ∨ k = 36 then (fun i => if i = 7 then 65535 else if i = 11 then 1 else 0) else fun _ => 0
theorem at_rowq {D : va_G} {H : Heap} {a : Nat} {cA : ClassId} {n : Nat} {f g : Nat → Option Nat} (hfg : ∀ j, j < n → f j = g j) (h : va_at D vwCl (a, .inl (cA, n, .inr (.inr (.inr (.inr f))))) H) : va_at D vwCl (a, .inl (cA, n, .inr (.inr (.inr (.inr g))))) H := by
  have h1 : H[a]? = some (arrV cA n (fun j => va_rf (f j))) := h
  show H[a]? = some (arrV cA n (fun j => va_rf (g j)))
  rw [h1]
  unfold arrV
  have : (Array.ofFn (n := n) fun j => va_rf (f j.val)) = Array.ofFn (n := n) fun j => va_rf (g j.val) := by
    congr 1
    funext j
    rw [hfg j.val j.isLt]
  rw [this]
def wsFir (cI cS cT : ClassId) (ek : Nat → Nat) (u : (Nat → Int32) × (Nat → Int32) × (Nat → Int32) × (Nat → Int32)) (fm : Nat → Int32) (a0 aq1 aq2 aq3 aq4 aq5 aq6 aq7 aq8 aq9 aq10 aq11 aq12 aq13 aq14 aq15 aq16 aq17 aq18 aq19 aq20 aq21 aq22 aq23 aq24 aq25 aq26 aq27 aq28 aq29 aq30 aq31 aq32 aq33 aq34 aq35 aq36 aq37 aq38 aq39 aq40 aq41 aq42 aq43 aq44 aq45 aq46 aq47 aq48 aq49 aq50 aq51 aq52 aq53 aq54 aq55 aq56 b0 bq1 bq2 bq3 bq4 bq5 bq6 bq7 bq8 bq9 bq10 bq11 bq12 bq13 bq14 bq15 : Nat) : va_W := (a0, .inr (7, [.ref aq1, .ref aq8, .ref aq15, .ref aq24, .ref aq29, .ref aq33, .ref aq34, .ref aq47, .ref aq56, .int 0])) :: (aq1, .inr (1, [.ref aq2, .ref aq3, .ref aq4, .ref aq5, .ref aq6, .ref aq7, .int 0, .int 65535, .int 0, .int 0, .int 0, .int 1])) :: (aq2, .inl (cI, 8, .inl (fun _ => 0))) :: (aq3, .inl (cI, 8, .inl (fun _ => 0))) :: (aq4, .inl (cI, 8, .inl (fun _ => 0))) :: (aq5, .inl (cI, 8, .inl (fun _ => 0))) :: (aq6, .inl (cI, 8, .inl (fun _ => 0))) :: (aq7, .inl (cI, 10, .inl (u.1))) :: (aq8, .inr (1, [.ref aq9, .ref aq10, .ref aq11, .ref aq12, .ref aq13, .ref aq14, .int 0, .int 65535, .int 0, .int 0, .int 0, .int 1])) :: (aq9, .inl (cI, 8, .inl (fun _ => 0))) :: (aq10, .inl (cI, 8, .inl (fun _ => 0))) :: (aq11, .inl (cI, 8, .inl (fun _ => 0))) :: (aq12, .inl (cI, 8, .inl (fun _ => 0))) :: (aq13, .inl (cI, 8, .inl (fun _ => 0))) :: (aq14, .inl (cI, 10, .inl (u.2.1))) :: (aq15, .inr (4, [.ref aq16, .ref aq23, .int 0, .int 0])) :: (aq16, .inr (1, [.ref aq17, .ref aq18, .ref aq19, .ref aq20, .ref aq21, .ref aq22, .int 0, .int 65535, .int 0, .int 0, .int 0, .int 1])) :: (aq17, .inl (cI, 8, .inl (fun _ => 0))) :: (aq18, .inl (cI, 8, .inl (fun _ => 0))) :: (aq19, .inl (cI, 8, .inl (fun _ => 0))) :: (aq20, .inl (cI, 8, .inl (fun _ => 0))) :: (aq21, .inl (cI, 8, .inl (fun _ => 0))) :: (aq22, .inl (cI, 10, .inl (u.2.2.1))) :: (aq23, .inl (cI, 16, .inl (fun _ => 0))) :: (aq24, .inr (0, [.ref aq25, .ref aq26, .ref aq27, .ref aq28, .int 0, .int 0])) :: (aq25, .inl (cI, 2, .inl (fun _ => 0))) :: (aq26, .inl (cI, 2, .inl (fun _ => 0))) :: (aq27, .inl (cI, 2, .inl (fun _ => 0))) :: (aq28, .inl (cI, 34, .inl (fun _ => 0))) :: (aq29, .inr (2, [.ref aq30, .ref aq31, .ref aq32])) :: (aq30, .inl (cI, 64, .inl (fun _ => 0))) :: (aq31, .inl (cI, 256, .inl (fun _ => 0))) :: (aq32, .inl (cI, 256, .inl (fun _ => 0))) :: (aq33, .inr (3, [.ref aq34, .ref aq36, .ref aq43, .ref aq44, .ref aq45, .ref aq46, .int 0, .int 0])) :: (aq34, .inr (6, [.ref aq35, .int 0])) :: (aq35, .inl (cI, 120, .inl (fun _ => 0))) :: (aq36, .inr (1, [.ref aq37, .ref aq38, .ref aq39, .ref aq40, .ref aq41, .ref aq42, .int 0, .int 65535, .int 0, .int 0, .int 0, .int 1])) :: (aq37, .inl (cI, 8, .inl (fun _ => 0))) :: (aq38, .inl (cI, 8, .inl (fun _ => 0))) :: (aq39, .inl (cI, 8, .inl (fun _ => 0))) :: (aq40, .inl (cI, 8, .inl (fun _ => 0))) :: (aq41, .inl (cI, 8, .inl (fun _ => 0))) :: (aq42, .inl (cI, 10, .inl (u.2.2.2))) :: (aq43, .inl (cI, 121, .inl (fun _ => 0))) :: (aq44, .inl (cI, 121, .inl (fun _ => 0))) :: (aq45, .inl (cI, 121, .inl (fun _ => 0))) :: (aq46, .inl (cI, 121, .inl (fun _ => 0))) :: (aq47, .inl (cS, 4, .inr (.inr (.inr (.inr (va_up (va_up (va_up (va_up (fun _ => none) 0 (some aq48)) 1 (some aq50)) 2 (some aq52)) 3 (some aq54))))))) :: (aq48, .inr (5, [.ref aq49, .int 0, .int 0])) :: (aq49, .inl (cI, 40, .inl (fun _ => 0))) :: (aq50, .inr (5, [.ref aq51, .int 0, .int 0])) :: (aq51, .inl (cI, 40, .inl (fun _ => 0))) :: (aq52, .inr (5, [.ref aq53, .int 0, .int 0])) :: (aq53, .inl (cI, 40, .inl (fun _ => 0))) :: (aq54, .inr (5, [.ref aq55, .int 0, .int 0])) :: (aq55, .inl (cI, 40, .inl (fun _ => 0))) :: (aq56, .inl (cI, 7, .inl (fun _ => 0))) :: (b0, .inr (8, [.ref bq1, .ref bq2, .ref bq3, .int 0, .ref bq4, .int 0, .int 0, .int 0, .int 0, .ref bq5, .ref bq6, .ref bq7, .int 0, .ref bq8, .ref bq9, .int 0, .int 0, .int 0, .int 0, .int 0, .int 0, .ref bq10, .ref bq11, .int 0, .int 0, .ref bq12, .ref bq13, .ref bq14, .ref bq15])) :: (bq1, .inl (cI, 56, .inl (fm))) :: (bq2, .inl (cI, 56, .inl (fun _ => 0))) :: (bq3, .inl (cI, 56, .inl (fun _ => 0))) :: (bq4, .inl (cI, 8, .inl (fun _ => 0))) :: (bq5, .inl (cI, 51, .inl (fun _ => 0))) :: (bq6, .inl (cI, 256, .inl (fun _ => 0))) :: (bq7, .inl (cI, 256, .inl (fun _ => 0))) :: (bq8, .inl (cI, 8, .inl (fun _ => 0))) :: (bq9, .inl (cI, 120, .inl (fun _ => 0))) :: (bq10, .inl (cT, 7, .inr (.inr (.inr (.inr (va_up (va_up (va_up (va_up (va_up (va_up (va_up (fun _ => none) 0 (some (ek 0))) 1 (some (ek 1))) 2 (some (ek 2))) 3 (some (ek 3))) 4 (some (ek 4))) 5 (some (ek 5))) 6 (some (ek 6)))))))) :: (bq11, .inl (cI, 480, .inl (fun _ => 0))) :: (bq12, .inl (cI, 4, .inl (fun _ => 0))) :: (bq13, .inl (cI, 4, .inl (fun _ => 0))) :: (bq14, .inl (cI, 160, .inl (fun _ => 0))) :: (bq15, .inl (cI, 40, .inl (fun _ => 0))) :: []
theorem fa_0 {P : Nat → Prop} : ∀ k, k < 0 → P k := fun k h => absurd h (Nat.not_lt_zero k)
theorem fa_s {P : Nat → Prop} {n : Nat} (h : ∀ k, k < n → P k) (hn : P n) : ∀ k, k < n + 1 → P k := fun k hk => by
  rcases Nat.lt_or_ge k n with g | g
  · exact h k g
  · have e : k = n := by omega
    rw [e]; exact hn
set_option maxHeartbeats 2000000 in
set_option maxRecDepth 100000 in
theorem fir_wp {dC : Nat → ClassId} {dI : Nat → Nat → Nat} {cI cS cT : ClassId} {ek ev : Nat → Nat} {uu : Nat} {u : (Nat → Int32) × (Nat → Int32) × (Nat → Int32) × (Nat → Int32)} {fm : Nat → Int32} {a0 aq1 aq2 aq3 aq4 aq5 aq6 aq7 aq8 aq9 aq10 aq11 aq12 aq13 aq14 aq15 aq16 aq17 aq18 aq19 aq20 aq21 aq22 aq23 aq24 aq25 aq26 aq27 aq28 aq29 aq30 aq31 aq32 aq33 aq34 aq35 aq36 aq37 aq38 aq39 aq40 aq41 aq42 aq43 aq44 aq45 aq46 aq47 aq48 aq49 aq50 aq51 aq52 aq53 aq54 aq55 aq56 b0 bq1 bq2 bq3 bq4 bq5 bq6 bq7 bq8 bq9 bq10 bq11 bq12 bq13 bq14 bq15 : Nat} {H : Heap} (hP : va_P (dC, dI) vwCl (wsFir cI cS cT ek u fm a0 aq1 aq2 aq3 aq4 aq5 aq6 aq7 aq8 aq9 aq10 aq11 aq12 aq13 aq14 aq15 aq16 aq17 aq18 aq19 aq20 aq21 aq22 aq23 aq24 aq25 aq26 aq27 aq28 aq29 aq30 aq31 aq32 aq33 aq34 aq35 aq36 aq37 aq38 aq39 aq40 aq41 aq42 aq43 aq44 aq45 aq46 aq47 aq48 aq49 aq50 aq51 aq52 aq53 aq54 aq55 aq56 b0 bq1 bq2 bq3 bq4 bq5 bq6 bq7 bq8 bq9 bq10 bq11 bq12 bq13 bq14 bq15) H) : WP (firE dC dI (a0 :: aq1 :: aq2 :: aq3 :: aq4 :: aq5 :: aq6 :: aq7 :: aq8 :: aq9 :: aq10 :: aq11 :: aq12 :: aq13 :: aq14 :: aq15 :: aq16 :: aq17 :: aq18 :: aq19 :: aq20 :: aq21 :: aq22 :: aq23 :: aq24 :: aq25 :: aq26 :: aq27 :: aq28 :: aq29 :: aq30 :: aq31 :: aq32 :: aq33 :: aq34 :: aq35 :: aq36 :: aq37 :: aq38 :: aq39 :: aq40 :: aq41 :: aq42 :: aq43 :: aq44 :: aq45 :: aq46 :: aq47 :: aq48 :: aq49 :: aq50 :: aq51 :: aq52 :: aq53 :: aq54 :: aq55 :: aq56 :: b0 :: bq1 :: bq2 :: bq3 :: bq4 :: bq5 :: bq6 :: bq7 :: bq8 :: bq9 :: bq10 :: bq11 :: bq12 :: bq13 :: bq14 :: bq15 :: []) cI cS cT ek ev uu) (firM u fm) H := by
  intro k q hq
  have hk0 : k < NC := by rw [← ws_len (firE dC dI (a0 :: aq1 :: aq2 :: aq3 :: aq4 :: aq5 :: aq6 :: aq7 :: aq8 :: aq9 :: aq10 :: aq11 :: aq12 :: aq13 :: aq14 :: aq15 :: aq16 :: aq17 :: aq18 :: aq19 :: aq20 :: aq21 :: aq22 :: aq23 :: aq24 :: aq25 :: aq26 :: aq27 :: aq28 :: aq29 :: aq30 :: aq31 :: aq32 :: aq33 :: aq34 :: aq35 :: aq36 :: aq37 :: aq38 :: aq39 :: aq40 :: aq41 :: aq42 :: aq43 :: aq44 :: aq45 :: aq46 :: aq47 :: aq48 :: aq49 :: aq50 :: aq51 :: aq52 :: aq53 :: aq54 :: aq55 :: aq56 :: b0 :: bq1 :: bq2 :: bq3 :: bq4 :: bq5 :: bq6 :: bq7 :: bq8 :: bq9 :: bq10 :: bq11 :: bq12 :: bq13 :: bq14 :: bq15 :: []) cI cS cT ek ev uu) (firM u fm)]; exact (List.getElem?_eq_some_iff.mp hq).1
  rw [ws_get _ _ hk0] at hq
  cases hq
  have hk : k < 73 := hk0
  clear hk0
  revert k
  refine fa_s ?_ (hP 72 _ rfl)
  refine fa_s ?_ (hP 71 _ rfl)
  refine fa_s ?_ (hP 70 _ rfl)
  refine fa_s ?_ (hP 69 _ rfl)
  refine fa_s ?_ (hP 68 _ rfl)
  refine fa_s ?_ (at_rowq (f := va_up (va_up (va_up (va_up (va_up (va_up (va_up (fun _ => none) 0 (some (ek 0))) 1 (some (ek 1))) 2 (some (ek 2))) 3 (some (ek 3))) 4 (some (ek 4))) 5 (some (ek 5))) 6 (some (ek 6))) (fun j hj => by rcases (show j = 0 ∨ j = 1 ∨ j = 2 ∨ j = 3 ∨ j = 4 ∨ j = 5 ∨ j = 6 by omega) with rfl | rfl | rfl | rfl | rfl | rfl | rfl <;> rfl) (hP 67 _ rfl))
  refine fa_s ?_ (hP 66 _ rfl)
  refine fa_s ?_ (hP 65 _ rfl)
  refine fa_s ?_ (hP 64 _ rfl)
  refine fa_s ?_ (hP 63 _ rfl)
  refine fa_s ?_ (hP 62 _ rfl)
  refine fa_s ?_ (hP 61 _ rfl)
  refine fa_s ?_ (hP 60 _ rfl)
  refine fa_s ?_ (hP 59 _ rfl)
  refine fa_s ?_ (hP 58 _ rfl)
  refine fa_s ?_ (hP 57 _ rfl)
  refine fa_s ?_ (hP 56 _ rfl)
  refine fa_s ?_ (hP 55 _ rfl)
  refine fa_s ?_ (hP 54 _ rfl)
  refine fa_s ?_ (hP 53 _ rfl)
  refine fa_s ?_ (hP 52 _ rfl)
  refine fa_s ?_ (hP 51 _ rfl)
  refine fa_s ?_ (hP 50 _ rfl)
  refine fa_s ?_ (hP 49 _ rfl)
  refine fa_s ?_ (hP 48 _ rfl)
  refine fa_s ?_ (at_rowq (f := va_up (va_up (va_up (va_up (fun _ => none) 0 (some aq48)) 1 (some aq50)) 2 (some aq52)) 3 (some aq54)) (fun j hj => by rcases (show j = 0 ∨ j = 1 ∨ j = 2 ∨ j = 3 by omega) with rfl | rfl | rfl | rfl <;> rfl) (hP 47 _ rfl))
  refine fa_s ?_ (hP 46 _ rfl)
  refine fa_s ?_ (hP 45 _ rfl)
  refine fa_s ?_ (hP 44 _ rfl)
  refine fa_s ?_ (hP 43 _ rfl)
  refine fa_s ?_ (hP 42 _ rfl)
  refine fa_s ?_ (hP 41 _ rfl)
  refine fa_s ?_ (hP 40 _ rfl)
  refine fa_s ?_ (hP 39 _ rfl)
  refine fa_s ?_ (hP 38 _ rfl)
  refine fa_s ?_ (hP 37 _ rfl)
  refine fa_s ?_ (hP 36 _ rfl)
  refine fa_s ?_ (hP 35 _ rfl)
  refine fa_s ?_ (hP 34 _ rfl)
  refine fa_s ?_ (hP 33 _ rfl)
  refine fa_s ?_ (hP 32 _ rfl)
  refine fa_s ?_ (hP 31 _ rfl)
  refine fa_s ?_ (hP 30 _ rfl)
  refine fa_s ?_ (hP 29 _ rfl)
  refine fa_s ?_ (hP 28 _ rfl)
  refine fa_s ?_ (hP 27 _ rfl)
  refine fa_s ?_ (hP 26 _ rfl)
  refine fa_s ?_ (hP 25 _ rfl)
  refine fa_s ?_ (hP 24 _ rfl)
  refine fa_s ?_ (hP 23 _ rfl)
  refine fa_s ?_ (hP 22 _ rfl)
  refine fa_s ?_ (hP 21 _ rfl)
  refine fa_s ?_ (hP 20 _ rfl)
  refine fa_s ?_ (hP 19 _ rfl)
  refine fa_s ?_ (hP 18 _ rfl)
  refine fa_s ?_ (hP 17 _ rfl)
  refine fa_s ?_ (hP 16 _ rfl)
  refine fa_s ?_ (hP 15 _ rfl)
  refine fa_s ?_ (hP 14 _ rfl)
  refine fa_s ?_ (hP 13 _ rfl)
  refine fa_s ?_ (hP 12 _ rfl)
  refine fa_s ?_ (hP 11 _ rfl)
  refine fa_s ?_ (hP 10 _ rfl)
  refine fa_s ?_ (hP 9 _ rfl)
  refine fa_s ?_ (hP 8 _ rfl)
  refine fa_s ?_ (hP 7 _ rfl)
  refine fa_s ?_ (hP 6 _ rfl)
  refine fa_s ?_ (hP 5 _ rfl)
  refine fa_s ?_ (hP 4 _ rfl)
  refine fa_s ?_ (hP 3 _ rfl)
  refine fa_s ?_ (hP 2 _ rfl)
  refine fa_s ?_ (hP 1 _ rfl)
  refine fa_s ?_ (hP 0 _ rfl)
  exact fa_0
theorem fir_adr {A : Nat → Prop} {ws : va_W} {l : List Nat} (hl : ws.map (fun q => q.1) = l) (hn : l.length = 73) (hD : va_D A ws) : (∀ i j, i < 73 → j < 73 → adrF l i = adrF l j → i = j) ∧ ∀ i, i < 73 → A (adrF l i) := by
  have key : ∀ i, i < 73 → ∃ q : Nat × va_E, ws[i]? = some q ∧ q.1 = adrF l i := by
    intro i hi
    have hlen : i < ws.length := by
      have : ws.length = l.length := by rw [← hl, List.length_map]
      omega
    refine ⟨ws[i], List.getElem?_eq_getElem hlen, ?_⟩
    unfold adrF
    subst hl
    rw [List.getD_eq_getElem?_getD, List.getElem?_map, List.getElem?_eq_getElem hlen]
    rfl
  refine ⟨fun i j hi hj h => ?_, fun i hi => ?_⟩
  · obtain ⟨p, p1, p2⟩ := key i hi
    obtain ⟨q, q1, q2⟩ := key j hj
    exact hD.1 i j p q p1 q1 (by rw [p2, q2]; exact h)
  · obtain ⟨p, p1, p2⟩ := key i hi
    rw [← p2]; exact hD.2 i p p1
theorem fir_ok {dC : Nat → ClassId} {dI : Nat → Nat → Nat} {cI cS cT : ClassId} {ek ev : Nat → Nat} {uu : Nat} {u : (Nat → Int32) × (Nat → Int32) × (Nat → Int32) × (Nat → Int32)} {fm : Nat → Int32} {a0 aq1 aq2 aq3 aq4 aq5 aq6 aq7 aq8 aq9 aq10 aq11 aq12 aq13 aq14 aq15 aq16 aq17 aq18 aq19 aq20 aq21 aq22 aq23 aq24 aq25 aq26 aq27 aq28 aq29 aq30 aq31 aq32 aq33 aq34 aq35 aq36 aq37 aq38 aq39 aq40 aq41 aq42 aq43 aq44 aq45 aq46 aq47 aq48 aq49 aq50 aq51 aq52 aq53 aq54 aq55 aq56 b0 bq1 bq2 bq3 bq4 bq5 bq6 bq7 bq8 bq9 bq10 bq11 bq12 bq13 bq14 bq15 : Nat} {A : Nat → Prop} (hD : va_D A (wsFir cI cS cT ek u fm a0 aq1 aq2 aq3 aq4 aq5 aq6 aq7 aq8 aq9 aq10 aq11 aq12 aq13 aq14 aq15 aq16 aq17 aq18 aq19 aq20 aq21 aq22 aq23 aq24 aq25 aq26 aq27 aq28 aq29 aq30 aq31 aq32 aq33 aq34 aq35 aq36 aq37 aq38 aq39 aq40 aq41 aq42 aq43 aq44 aq45 aq46 aq47 aq48 aq49 aq50 aq51 aq52 aq53 aq54 aq55 aq56 b0 bq1 bq2 bq3 bq4 bq5 bq6 bq7 bq8 bq9 bq10 bq11 bq12 bq13 bq14 bq15)) : OkE (firE dC dI (a0 :: aq1 :: aq2 :: aq3 :: aq4 :: aq5 :: aq6 :: aq7 :: aq8 :: aq9 :: aq10 :: aq11 :: aq12 :: aq13 :: aq14 :: aq15 :: aq16 :: aq17 :: aq18 :: aq19 :: aq20 :: aq21 :: aq22 :: aq23 :: aq24 :: aq25 :: aq26 :: aq27 :: aq28 :: aq29 :: aq30 :: aq31 :: aq32 :: aq33 :: aq34 :: aq35 :: aq36 :: aq37 :: aq38 :: aq39 :: aq40 :: aq41 :: aq42 :: aq43 :: aq44 :: aq45 :: aq46 :: aq47 :: aq48 :: aq49 :: aq50 :: aq51 :: aq52 :: aq53 :: aq54 :: aq55 :: aq56 :: b0 :: bq1 :: bq2 :: bq3 :: bq4 :: bq5 :: bq6 :: bq7 :: bq8 :: bq9 :: bq10 :: bq11 :: bq12 :: bq13 :: bq14 :: bq15 :: []) cI cS cT ek ev uu) ∧ ∀ q, AA (firE dC dI (a0 :: aq1 :: aq2 :: aq3 :: aq4 :: aq5 :: aq6 :: aq7 :: aq8 :: aq9 :: aq10 :: aq11 :: aq12 :: aq13 :: aq14 :: aq15 :: aq16 :: aq17 :: aq18 :: aq19 :: aq20 :: aq21 :: aq22 :: aq23 :: aq24 :: aq25 :: aq26 :: aq27 :: aq28 :: aq29 :: aq30 :: aq31 :: aq32 :: aq33 :: aq34 :: aq35 :: aq36 :: aq37 :: aq38 :: aq39 :: aq40 :: aq41 :: aq42 :: aq43 :: aq44 :: aq45 :: aq46 :: aq47 :: aq48 :: aq49 :: aq50 :: aq51 :: aq52 :: aq53 :: aq54 :: aq55 :: aq56 :: b0 :: bq1 :: bq2 :: bq3 :: bq4 :: bq5 :: bq6 :: bq7 :: bq8 :: bq9 :: bq10 :: bq11 :: bq12 :: bq13 :: bq14 :: bq15 :: []) cI cS cT ek ev uu) q → A q := by
  obtain ⟨h1, h2⟩ := fir_adr (l := (a0 :: aq1 :: aq2 :: aq3 :: aq4 :: aq5 :: aq6 :: aq7 :: aq8 :: aq9 :: aq10 :: aq11 :: aq12 :: aq13 :: aq14 :: aq15 :: aq16 :: aq17 :: aq18 :: aq19 :: aq20 :: aq21 :: aq22 :: aq23 :: aq24 :: aq25 :: aq26 :: aq27 :: aq28 :: aq29 :: aq30 :: aq31 :: aq32 :: aq33 :: aq34 :: aq35 :: aq36 :: aq37 :: aq38 :: aq39 :: aq40 :: aq41 :: aq42 :: aq43 :: aq44 :: aq45 :: aq46 :: aq47 :: aq48 :: aq49 :: aq50 :: aq51 :: aq52 :: aq53 :: aq54 :: aq55 :: aq56 :: b0 :: bq1 :: bq2 :: bq3 :: bq4 :: bq5 :: bq6 :: bq7 :: bq8 :: bq9 :: bq10 :: bq11 :: bq12 :: bq13 :: bq14 :: bq15 :: [])) rfl rfl hD
  refine ⟨h1, ?_⟩
  rintro q ⟨k, hk, rfl⟩
  exact h2 k hk
def firL : Lan := (fun _ => 0, fun _ => 0, fun _ => 0, fun _ => 0, fun _ => 1, fun _ => 0, 0, 0, 65535, 0, 0, 1)
def firS : Sta := (firL, firL, false, fun _ => 0, 0, fun _ => 0, fun _ => 0, fun _ _ => 0, fun _ => 0)
theorem fir_wf : WFS firS := by
  have hW : WF firL := ⟨by decide, by decide, by decide, fun i _ => ⟨by show (0 : Nat) ≤ 6; omega, by show (0 : Nat) ≤ 99; omega, by show (0 : Nat) ≤ 9; omega, by show (0 : Nat) < 65536; omega⟩, fun i hi => absurd hi (Nat.not_lt_zero i), fun s _ => Nat.le_refl _⟩
  exact ⟨hW, fun h => (by cases h), Nat.zero_le _, fun i => (by show (0 : Nat) < 256; omega), fun s _ => ⟨Or.inl rfl, Nat.zero_le _⟩⟩
theorem fir_ac {u : (Nat → Int32) × (Nat → Int32) × (Nat → Int32) × (Nat → Int32)} {fm : Nat → Int32} (h1 : ∀ j, j < 10 → u.1 j = -1) : AC (firM u fm) firS := by
  refine ⟨⟨fun i hi => rfl, fun i hi => rfl, fun i hi => rfl, fun i hi => rfl, fun i hi => rfl, fun i hi => (h1 i hi).trans rfl, rfl, rfl, rfl, rfl, rfl, rfl⟩, fun h => (by cases h), rfl, fun i hi => absurd hi (Nat.not_lt_zero i), rfl, fun s hs => ?_, fun f hf => rfl⟩
  rcases (show s = 0 ∨ s = 1 ∨ s = 2 ∨ s = 3 by omega) with rfl | rfl | rfl | rfl <;> exact ⟨rfl, rfl, fun i hi => rfl⟩
theorem fir_ar {u : (Nat → Int32) × (Nat → Int32) × (Nat → Int32) × (Nat → Int32)} {fm : Nat → Int32} (hm : ∀ j, fm j = if 6 ≤ j ∧ j < 16 then -1 else if j = 3 then 65535 else if j = 5 then 1 else 0) : AR (firM u fm) firS := by
  have z : ∀ j, 16 ≤ j → fm j = 0 := fun j hj => by rw [hm j, if_neg (by omega), if_neg (by omega), if_neg (by omega)]
  refine ⟨⟨fun i hi => (z _ (by omega)).trans rfl, fun i hi => (z _ (by omega)).trans rfl, fun i hi => (z _ (by omega)).trans rfl, fun i hi => (z _ (by omega)).trans rfl, fun i hi => (z _ (by omega)).trans rfl, fun i hi => ?_, (hm 4).trans rfl, (hm 3).trans rfl, (hm 0).trans rfl, (hm 1).trans rfl, (hm 2).trans rfl, (hm 5).trans rfl⟩, fun h => (by cases h), rfl, fun i hi => absurd hi (Nat.not_lt_zero i), rfl, fun s hs => ⟨rfl, rfl, fun i hi => rfl⟩, fun f hf => rfl, rfl⟩
  have : fm (6 + i) = -1 := by rw [hm (6 + i), if_pos (by omega)]
  exact this.trans rfl

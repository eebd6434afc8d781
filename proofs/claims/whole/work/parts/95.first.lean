/-! the first world, the first state -/
def adrF (l : List Nat) : Nat → Nat := fun k => l.getD k 0
def firE (dC : Nat → ClassId) (dI : Nat → Nat → Nat) (l : List Nat) (cI cS cT : ClassId) (ek ev : Nat → Nat) (uu : Nat) : EV := ((dC, dI), adrF l, (cI, cS, cT), ek, ev, uu)
def firM (u : (Nat → Int32) × (Nat → Int32) × (Nat → Int32) × (Nat → Int32)) (fm : Nat → Int32) : Mem := fun k => if k = 7 then u.1 else if k = 14 then u.2.1 else if k = 22 then u.2.2.1 else if k = 42 then u.2.2.2 else if k = 58 then fm else if k = 1 ∨ k = 8 ∨ k = 16 ∨ k = 36 then (fun i => if i = 7 then 65535 else if i = 11 then 1 else 0) else fun _ => 0
theorem at_rowq {D : va_G} {H : Heap} {a : Nat} {cA : ClassId} {n : Nat} {f g : Nat → Option Nat} (hfg : ∀ j, j < n → f j = g j) (h : va_at D vwCl (a, .inl (cA, n, .inr (.inr (.inr (.inr f))))) H) : va_at D vwCl (a, .inl (cA, n, .inr (.inr (.inr (.inr g))))) H := by
  have h1 : H[a]? = some (arrV cA n (fun j => va_rf (f j))) := h
  show H[a]? = some (arrV cA n (fun j => va_rf (g j)))
  rw [h1]
  unfold arrV
  have : (Array.ofFn (n := n) fun j => va_rf (f j.val)) = Array.ofFn (n := n) fun j => va_rf (g j.val) := by
    congr 1
    funext j
    rw [hfg j.val j.isLt]
  rw [this]
def wsAd (cI cS cT : ClassId) (ek : Nat → Nat) (u : (Nat → Int32) × (Nat → Int32) × (Nat → Int32) × (Nat → Int32)) (fm : Nat → Int32) (a0 aq1 aq2 aq3 aq4 aq5 aq6 aq7 aq8 aq9 aq10 aq11 aq12 aq13 aq14 aq15 aq16 aq17 aq18 aq19 aq20 aq21 aq22 aq23 aq24 aq25 aq26 aq27 aq28 aq29 aq30 aq31 aq32 aq33 aq34 aq35 aq36 aq37 aq38 aq39 aq40 aq41 aq42 aq43 aq44 aq45 aq46 aq47 aq48 aq49 aq50 aq51 aq52 aq53 aq54 aq55 aq56 b0 bq1 bq2 bq3 bq4 bq5 bq6 bq7 bq8 bq9 bq10 bq11 bq12 bq13 bq14 bq15 : Nat) : va_W := (a0, .inr (7, [.ref aq1, .ref aq8, .ref aq15, .ref aq24, .ref aq29, .ref aq33, .ref aq34, .ref aq47, .ref aq56, .int 0])) :: (aq1, .inr (1, [.ref aq2, .ref aq3, .ref aq4, .ref aq5, .ref aq6, .ref aq7, .int 0, .int 65535, .int 0, .int 0, .int 0, .int 1])) :: (aq2, .inl (cI, 8, .inl (fun _ => 0))) :: (aq3, .inl (cI, 8, .inl (fun _ => 0))) :: (aq4, .inl (cI, 8, .inl (fun _ => 0))) :: (aq5, .inl (cI, 8, .inl (fun _ => 0))) :: (aq6, .inl (cI, 8, .inl (fun _ => 0))) :: (aq7, .inl (cI, 10, .inl (u.1))) :: (aq8, .inr (1, [.ref aq9, .ref aq10, .ref aq11, .ref aq12, .ref aq13, .ref aq14, .int 0, .int 65535, .int 0, .int 0, .int 0, .int 1])) :: (aq9, .inl (cI, 8, .inl (fun _ => 0))) :: (aq10, .inl (cI, 8, .inl (fun _ => 0))) :: (aq11, .inl (cI, 8, .inl (fun _ => 0))) :: (aq12, .inl (cI, 8, .inl (fun _ => 0))) :: (aq13, .inl (cI, 8, .inl (fun _ => 0))) :: (aq14, .inl (cI, 10, .inl (u.2.1))) :: (aq15, .inr (4, [.ref aq16, .ref aq23, .int 0, .int 0])) :: (aq16, .inr (1, [.ref aq17, .ref aq18, .ref aq19, .ref aq20, .ref aq21, .ref aq22, .int 0, .int 65535, .int 0, .int 0, .int 0, .int 1])) :: (aq17, .inl (cI, 8, .inl (fun _ => 0))) :: (aq18, .inl (cI, 8, .inl (fun _ => 0))) :: (aq19, .inl (cI, 8, .inl (fun _ => 0))) :: (aq20, .inl (cI, 8, .inl (fun _ => 0))) :: (aq21, .inl (cI, 8, .inl (fun _ => 0))) :: (aq22, .inl (cI, 10, .inl (u.2.2.1))) :: (aq23, .inl (cI, 16, .inl (fun _ => 0))) :: (aq24, .inr (0, [.ref aq25, .ref aq26, .ref aq27, .ref aq28, .int 0, .int 0])) :: (aq25, .inl (cI, 2, .inl (fun _ => 0))) :: (aq26, .inl (cI, 2, .inl (fun _ => 0))) :: (aq27, .inl (cI, 2, .inl (fun _ => 0))) :: (aq28, .inl (cI, 34, .inl (fun _ => 0))) :: (aq29, .inr (2, [.ref aq30, .ref aq31, .ref aq32])) :: (aq30, .inl (cI, 64, .inl (fun _ => 0))) :: (aq31, .inl (cI, 256, .inl (fun _ => 0))) :: (aq32, .inl (cI, 256, .inl (fun _ => 0))) :: (aq33, .inr (3, [.ref aq34, .ref aq36, .ref aq43, .ref aq44, .ref aq45, .ref aq46, .int 0, .int 0])) :: (aq34, .inr (6, [.ref aq35, .int 0])) :: (aq35, .inl (cI, 120, .inl (fun _ => 0))) :: (aq36, .inr (1, [.ref aq37, .ref aq38, .ref aq39, .ref aq40, .ref aq41, .ref aq42, .int 0, .int 65535, .int 0, .int 0, .int 0, .int 1])) :: (aq37, .inl (cI, 8, .inl (fun _ => 0))) :: (aq38, .inl (cI, 8, .inl (fun _ => 0))) :: (aq39, .inl (cI, 8, .inl (fun _ => 0))) :: (aq40, .inl (cI, 8, .inl (fun _ => 0))) :: (aq41, .inl (cI, 8, .inl (fun _ => 0))) :: (aq42, .inl (cI, 10, .inl (u.2.2.2))) :: (aq43, .inl (cI, 121, .inl (fun _ => 0))) :: (aq44, .inl (cI, 121, .inl (fun _ => 0))) :: (aq45, .inl (cI, 121, .inl (fun _ => 0))) :: (aq46, .inl (cI, 121, .inl (fun _ => 0))) :: (aq47, .inl (cS, 4, .inr (.inr (.inr (.inr (va_up (va_up (va_up (va_up (fun _ => none) 0 (some aq48)) 1 (some aq50)) 2 (some aq52)) 3 (some aq54))))))) :: (aq48, .inr (5, [.ref aq49, .int 0, .int 0])) :: (aq49, .inl (cI, 40, .inl (fun _ => 0))) :: (aq50, .inr (5, [.ref aq51, .int 0, .int 0])) :: (aq51, .inl (cI, 40, .inl (fun _ => 0))) :: (aq52, .inr (5, [.ref aq53, .int 0, .int 0])) :: (aq53, .inl (cI, 40, .inl (fun _ => 0))) :: (aq54, .inr (5, [.ref aq55, .int 0, .int 0])) :: (aq55, .inl (cI, 40, .inl (fun _ => 0))) :: (aq56, .inl (cI, 7, .inl (fun _ => 0))) :: (b0, .inr (8, [.ref bq1, .ref bq2, .ref bq3, .int 0, .ref bq4, .int 0, .int 0, .int 0, .int 0, .ref bq5, .ref bq6, .ref bq7, .int 0, .ref bq8, .ref bq9, .int 0, .int 0, .int 0, .int 0, .int 0, .int 0, .ref bq10, .ref bq11, .int 0, .int 0, .ref bq12, .ref bq13, .ref bq14, .ref bq15])) :: (bq1, .inl (cI, 56, .inl (fm))) :: (bq2, .inl (cI, 56, .inl (fun _ => 0))) :: (bq3, .inl (cI, 56, .inl (fun _ => 0))) :: (bq4, .inl (cI, 8, .inl (fun _ => 0))) :: (bq5, .inl (cI, 51, .inl (fun _ => 0))) :: (bq6, .inl (cI, 256, .inl (fun _ => 0))) :: (bq7, .inl (cI, 256, .inl (fun _ => 0))) :: (bq8, .inl (cI, 8, .inl (fun _ => 0))) :: (bq9, .inl (cI, 120, .inl (fun _ => 0))) :: (bq10, .inl (cT, 7, .inr (.inr (.inr (.inr (va_up (va_up (va_up (va_up (va_up (va_up (va_up (fun _ => none) 0 (some (ek 0))) 1 (some (ek 1))) 2 (some (ek 2))) 3 (some (ek 3))) 4 (some (ek 4))) 5 (some (ek 5))) 6 (some (ek 6)))))))) :: (bq11, .inl (cI, 480, .inl (fun _ => 0))) :: (bq12, .inl (cI, 4, .inl (fun _ => 0))) :: (bq13, .inl (cI, 4, .inl (fun _ => 0))) :: (bq14, .inl (cI, 160, .inl (fun _ => 0))) :: (bq15, .inl (cI, 40, .inl (fun _ => 0))) :: []
def wsFir (E : EV) (u : (Nat → Int32) × (Nat → Int32) × (Nat → Int32) × (Nat → Int32)) (fm : Nat → Int32) : va_W := ((eA E 0), .inr (7, [.ref (eA E 1), .ref (eA E 8), .ref (eA E 15), .ref (eA E 24), .ref (eA E 29), .ref (eA E 33), .ref (eA E 34), .ref (eA E 47), .ref (eA E 56), .int 0])) :: ((eA E 1), .inr (1, [.ref (eA E 2), .ref (eA E 3), .ref (eA E 4), .ref (eA E 5), .ref (eA E 6), .ref (eA E 7), .int 0, .int 65535, .int 0, .int 0, .int 0, .int 1])) :: ((eA E 2), .inl ((eI E), 8, .inl (fun _ => 0))) :: ((eA E 3), .inl ((eI E), 8, .inl (fun _ => 0))) :: ((eA E 4), .inl ((eI E), 8, .inl (fun _ => 0))) :: ((eA E 5), .inl ((eI E), 8, .inl (fun _ => 0))) :: ((eA E 6), .inl ((eI E), 8, .inl (fun _ => 0))) :: ((eA E 7), .inl ((eI E), 10, .inl (u.1))) :: ((eA E 8), .inr (1, [.ref (eA E 9), .ref (eA E 10), .ref (eA E 11), .ref (eA E 12), .ref (eA E 13), .ref (eA E 14), .int 0, .int 65535, .int 0, .int 0, .int 0, .int 1])) :: ((eA E 9), .inl ((eI E), 8, .inl (fun _ => 0))) :: ((eA E 10), .inl ((eI E), 8, .inl (fun _ => 0))) :: ((eA E 11), .inl ((eI E), 8, .inl (fun _ => 0))) :: ((eA E 12), .inl ((eI E), 8, .inl (fun _ => 0))) :: ((eA E 13), .inl ((eI E), 8, .inl (fun _ => 0))) :: ((eA E 14), .inl ((eI E), 10, .inl (u.2.1))) :: ((eA E 15), .inr (4, [.ref (eA E 16), .ref (eA E 23), .int 0, .int 0])) :: ((eA E 16), .inr (1, [.ref (eA E 17), .ref (eA E 18), .ref (eA E 19), .ref (eA E 20), .ref (eA E 21), .ref (eA E 22), .int 0, .int 65535, .int 0, .int 0, .int 0, .int 1])) :: ((eA E 17), .inl ((eI E), 8, .inl (fun _ => 0))) :: ((eA E 18), .inl ((eI E), 8, .inl (fun _ => 0))) :: ((eA E 19), .inl ((eI E), 8, .inl (fun _ => 0))) :: ((eA E 20), .inl ((eI E), 8, .inl (fun _ => 0))) :: ((eA E 21), .inl ((eI E), 8, .inl (fun _ => 0))) :: ((eA E 22), .inl ((eI E), 10, .inl (u.2.2.1))) :: ((eA E 23), .inl ((eI E), 16, .inl (fun _ => 0))) :: ((eA E 24), .inr (0, [.ref (eA E 25), .ref (eA E 26), .ref (eA E 27), .ref (eA E 28), .int 0, .int 0])) :: ((eA E 25), .inl ((eI E), 2, .inl (fun _ => 0))) :: ((eA E 26), .inl ((eI E), 2, .inl (fun _ => 0))) :: ((eA E 27), .inl ((eI E), 2, .inl (fun _ => 0))) :: ((eA E 28), .inl ((eI E), 34, .inl (fun _ => 0))) :: ((eA E 29), .inr (2, [.ref (eA E 30), .ref (eA E 31), .ref (eA E 32)])) :: ((eA E 30), .inl ((eI E), 64, .inl (fun _ => 0))) :: ((eA E 31), .inl ((eI E), 256, .inl (fun _ => 0))) :: ((eA E 32), .inl ((eI E), 256, .inl (fun _ => 0))) :: ((eA E 33), .inr (3, [.ref (eA E 34), .ref (eA E 36), .ref (eA E 43), .ref (eA E 44), .ref (eA E 45), .ref (eA E 46), .int 0, .int 0])) :: ((eA E 34), .inr (6, [.ref (eA E 35), .int 0])) :: ((eA E 35), .inl ((eI E), 120, .inl (fun _ => 0))) :: ((eA E 36), .inr (1, [.ref (eA E 37), .ref (eA E 38), .ref (eA E 39), .ref (eA E 40), .ref (eA E 41), .ref (eA E 42), .int 0, .int 65535, .int 0, .int 0, .int 0, .int 1])) :: ((eA E 37), .inl ((eI E), 8, .inl (fun _ => 0))) :: ((eA E 38), .inl ((eI E), 8, .inl (fun _ => 0))) :: ((eA E 39), .inl ((eI E), 8, .inl (fun _ => 0))) :: ((eA E 40), .inl ((eI E), 8, .inl (fun _ => 0))) :: ((eA E 41), .inl ((eI E), 8, .inl (fun _ => 0))) :: ((eA E 42), .inl ((eI E), 10, .inl (u.2.2.2))) :: ((eA E 43), .inl ((eI E), 121, .inl (fun _ => 0))) :: ((eA E 44), .inl ((eI E), 121, .inl (fun _ => 0))) :: ((eA E 45), .inl ((eI E), 121, .inl (fun _ => 0))) :: ((eA E 46), .inl ((eI E), 121, .inl (fun _ => 0))) :: ((eA E 47), .inl ((eS E), 4, .inr (.inr (.inr (.inr (va_up (va_up (va_up (va_up (fun _ => none) 0 (some (eA E 48))) 1 (some (eA E 50))) 2 (some (eA E 52))) 3 (some (eA E 54)))))))) :: ((eA E 48), .inr (5, [.ref (eA E 49), .int 0, .int 0])) :: ((eA E 49), .inl ((eI E), 40, .inl (fun _ => 0))) :: ((eA E 50), .inr (5, [.ref (eA E 51), .int 0, .int 0])) :: ((eA E 51), .inl ((eI E), 40, .inl (fun _ => 0))) :: ((eA E 52), .inr (5, [.ref (eA E 53), .int 0, .int 0])) :: ((eA E 53), .inl ((eI E), 40, .inl (fun _ => 0))) :: ((eA E 54), .inr (5, [.ref (eA E 55), .int 0, .int 0])) :: ((eA E 55), .inl ((eI E), 40, .inl (fun _ => 0))) :: ((eA E 56), .inl ((eI E), 7, .inl (fun _ => 0))) :: ((eA E 57), .inr (8, [.ref (eA E 58), .ref (eA E 59), .ref (eA E 60), .int 0, .ref (eA E 61), .int 0, .int 0, .int 0, .int 0, .ref (eA E 62), .ref (eA E 63), .ref (eA E 64), .int 0, .ref (eA E 65), .ref (eA E 66), .int 0, .int 0, .int 0, .int 0, .int 0, .int 0, .ref (eA E 67), .ref (eA E 68), .int 0, .int 0, .ref (eA E 69), .ref (eA E 70), .ref (eA E 71), .ref (eA E 72)])) :: ((eA E 58), .inl ((eI E), 56, .inl (fm))) :: ((eA E 59), .inl ((eI E), 56, .inl (fun _ => 0))) :: ((eA E 60), .inl ((eI E), 56, .inl (fun _ => 0))) :: ((eA E 61), .inl ((eI E), 8, .inl (fun _ => 0))) :: ((eA E 62), .inl ((eI E), 51, .inl (fun _ => 0))) :: ((eA E 63), .inl ((eI E), 256, .inl (fun _ => 0))) :: ((eA E 64), .inl ((eI E), 256, .inl (fun _ => 0))) :: ((eA E 65), .inl ((eI E), 8, .inl (fun _ => 0))) :: ((eA E 66), .inl ((eI E), 120, .inl (fun _ => 0))) :: ((eA E 67), .inl ((eT E), 7, .inr (.inr (.inr (.inr (va_up (va_up (va_up (va_up (va_up (va_up (va_up (fun _ => none) 0 (some (eK E 0))) 1 (some (eK E 1))) 2 (some (eK E 2))) 3 (some (eK E 3))) 4 (some (eK E 4))) 5 (some (eK E 5))) 6 (some (eK E 6)))))))) :: ((eA E 68), .inl ((eI E), 480, .inl (fun _ => 0))) :: ((eA E 69), .inl ((eI E), 4, .inl (fun _ => 0))) :: ((eA E 70), .inl ((eI E), 4, .inl (fun _ => 0))) :: ((eA E 71), .inl ((eI E), 160, .inl (fun _ => 0))) :: ((eA E 72), .inl ((eI E), 40, .inl (fun _ => 0))) :: []
theorem fa_0 {P : Nat → Prop} : ∀ k, k < 0 → P k := fun k h => absurd h (Nat.not_lt_zero k)
theorem fa_s {P : Nat → Prop} {n : Nat} (h : ∀ k, k < n → P k) (hn : P n) : ∀ k, k < n + 1 → P k := fun k hk => by
  rcases Nat.lt_or_ge k n with g | g
  · exact h k g
  · have e : k = n := by omega
    rw [e]; exact hn
def mpi {α β : Type} (f : Nat → α → β) : Nat → List α → List β
  | _, [] => []
  | i, x :: xs => f i x :: mpi f (i + 1) xs
theorem mpi_eq {α β : Type} (l : List α) : ∀ (f : Nat → α → β) (i : Nat), l.mapIdx (fun j => f (j + i)) = mpi f i l := by
  induction l with
  | nil => intro f i; rfl
  | cons x xs ih =>
    intro f i
    rw [List.mapIdx_cons]
    show f (0 + i) x :: xs.mapIdx (fun j => f (j + 1 + i)) = f i x :: mpi f (i + 1) xs
    rw [Nat.zero_add, ← ih f (i + 1), show (fun j => f (j + 1 + i)) = (fun j => f (j + (i + 1))) from funext fun j => by rw [show j + 1 + i = j + (i + 1) by omega]]
theorem mpi_of {α β : Type} (f : Nat → α → β) (l : List α) : l.mapIdx f = mpi f 0 l := mpi_eq l f 0
set_option maxRecDepth 20000 in
theorem fir_c57 {E : EV} {u : (Nat → Int32) × (Nat → Int32) × (Nat → Int32) × (Nat → Int32)} {fm : Nat → Int32} {H : Heap} (hP : va_P (eD E) vwCl (wsFir E u fm) H) : va_at (eD E) vwCl (eA E 57, cE E (firM u fm) 57) H := by
  rw [cE_obj E (firM u fm) (k := 57) rfl, mpi_of]
  exact hP 57 _ rfl
set_option maxRecDepth 20000 in
theorem fir_w0 {E : EV} {u : (Nat → Int32) × (Nat → Int32) × (Nat → Int32) × (Nat → Int32)} {fm : Nat → Int32} {H : Heap} (hP : va_P (eD E) vwCl (wsFir E u fm) H) (h0 : ∀ k, k < 0 → va_at (eD E) vwCl (eA E k, cE E (firM u fm) k) H) : ∀ k, k < 10 → va_at (eD E) vwCl (eA E k, cE E (firM u fm) k) H := by
  refine fa_s ?_ (hP 9 _ rfl)
  refine fa_s ?_ (hP 8 _ rfl)
  refine fa_s ?_ (hP 7 _ rfl)
  refine fa_s ?_ (hP 6 _ rfl)
  refine fa_s ?_ (hP 5 _ rfl)
  refine fa_s ?_ (hP 4 _ rfl)
  refine fa_s ?_ (hP 3 _ rfl)
  refine fa_s ?_ (hP 2 _ rfl)
  refine fa_s ?_ (hP 1 _ rfl)
  refine fa_s ?_ (hP 0 _ rfl)
  exact h0
set_option maxRecDepth 20000 in
theorem fir_w1 {E : EV} {u : (Nat → Int32) × (Nat → Int32) × (Nat → Int32) × (Nat → Int32)} {fm : Nat → Int32} {H : Heap} (hP : va_P (eD E) vwCl (wsFir E u fm) H) (h0 : ∀ k, k < 10 → va_at (eD E) vwCl (eA E k, cE E (firM u fm) k) H) : ∀ k, k < 20 → va_at (eD E) vwCl (eA E k, cE E (firM u fm) k) H := by
  refine fa_s ?_ (hP 19 _ rfl)
  refine fa_s ?_ (hP 18 _ rfl)
  refine fa_s ?_ (hP 17 _ rfl)
  refine fa_s ?_ (hP 16 _ rfl)
  refine fa_s ?_ (hP 15 _ rfl)
  refine fa_s ?_ (hP 14 _ rfl)
  refine fa_s ?_ (hP 13 _ rfl)
  refine fa_s ?_ (hP 12 _ rfl)
  refine fa_s ?_ (hP 11 _ rfl)
  refine fa_s ?_ (hP 10 _ rfl)
  exact h0
set_option maxRecDepth 20000 in
theorem fir_w2 {E : EV} {u : (Nat → Int32) × (Nat → Int32) × (Nat → Int32) × (Nat → Int32)} {fm : Nat → Int32} {H : Heap} (hP : va_P (eD E) vwCl (wsFir E u fm) H) (h0 : ∀ k, k < 20 → va_at (eD E) vwCl (eA E k, cE E (firM u fm) k) H) : ∀ k, k < 30 → va_at (eD E) vwCl (eA E k, cE E (firM u fm) k) H := by
  refine fa_s ?_ (hP 29 _ rfl)
  refine fa_s ?_ (hP 28 _ rfl)
  refine fa_s ?_ (hP 27 _ rfl)
  refine fa_s ?_ (hP 26 _ rfl)
  refine fa_s ?_ (hP 25 _ rfl)
  refine fa_s ?_ (hP 24 _ rfl)
  refine fa_s ?_ (hP 23 _ rfl)
  refine fa_s ?_ (hP 22 _ rfl)
  refine fa_s ?_ (hP 21 _ rfl)
  refine fa_s ?_ (hP 20 _ rfl)
  exact h0
set_option maxRecDepth 20000 in
theorem fir_w3 {E : EV} {u : (Nat → Int32) × (Nat → Int32) × (Nat → Int32) × (Nat → Int32)} {fm : Nat → Int32} {H : Heap} (hP : va_P (eD E) vwCl (wsFir E u fm) H) (h0 : ∀ k, k < 30 → va_at (eD E) vwCl (eA E k, cE E (firM u fm) k) H) : ∀ k, k < 40 → va_at (eD E) vwCl (eA E k, cE E (firM u fm) k) H := by
  refine fa_s ?_ (hP 39 _ rfl)
  refine fa_s ?_ (hP 38 _ rfl)
  refine fa_s ?_ (hP 37 _ rfl)
  refine fa_s ?_ (hP 36 _ rfl)
  refine fa_s ?_ (hP 35 _ rfl)
  refine fa_s ?_ (hP 34 _ rfl)
  refine fa_s ?_ (hP 33 _ rfl)
  refine fa_s ?_ (hP 32 _ rfl)
  refine fa_s ?_ (hP 31 _ rfl)
  refine fa_s ?_ (hP 30 _ rfl)
  exact h0
set_option maxRecDepth 20000 in
theorem fir_w4 {E : EV} {u : (Nat → Int32) × (Nat → Int32) × (Nat → Int32) × (Nat → Int32)} {fm : Nat → Int32} {H : Heap} (hP : va_P (eD E) vwCl (wsFir E u fm) H) (h0 : ∀ k, k < 40 → va_at (eD E) vwCl (eA E k, cE E (firM u fm) k) H) : ∀ k, k < 50 → va_at (eD E) vwCl (eA E k, cE E (firM u fm) k) H := by
  refine fa_s ?_ (hP 49 _ rfl)
  refine fa_s ?_ (hP 48 _ rfl)
  refine fa_s ?_ (at_rowq (f := va_up (va_up (va_up (va_up (fun _ => none) 0 (some (eA E 48))) 1 (some (eA E 50))) 2 (some (eA E 52))) 3 (some (eA E 54))) (fun j hj => by rcases (show j = 0 ∨ j = 1 ∨ j = 2 ∨ j = 3 by omega) with rfl | rfl | rfl | rfl <;> rfl) (hP 47 _ rfl))
  refine fa_s ?_ (hP 46 _ rfl)
  refine fa_s ?_ (hP 45 _ rfl)
  refine fa_s ?_ (hP 44 _ rfl)
  refine fa_s ?_ (hP 43 _ rfl)
  refine fa_s ?_ (hP 42 _ rfl)
  refine fa_s ?_ (hP 41 _ rfl)
  refine fa_s ?_ (hP 40 _ rfl)
  exact h0
set_option maxRecDepth 20000 in
theorem fir_w5 {E : EV} {u : (Nat → Int32) × (Nat → Int32) × (Nat → Int32) × (Nat → Int32)} {fm : Nat → Int32} {H : Heap} (hP : va_P (eD E) vwCl (wsFir E u fm) H) (h0 : ∀ k, k < 50 → va_at (eD E) vwCl (eA E k, cE E (firM u fm) k) H) : ∀ k, k < 60 → va_at (eD E) vwCl (eA E k, cE E (firM u fm) k) H := by
  refine fa_s ?_ (hP 59 _ rfl)
  refine fa_s ?_ (hP 58 _ rfl)
  refine fa_s ?_ (fir_c57 hP)
  refine fa_s ?_ (hP 56 _ rfl)
  refine fa_s ?_ (hP 55 _ rfl)
  refine fa_s ?_ (hP 54 _ rfl)
  refine fa_s ?_ (hP 53 _ rfl)
  refine fa_s ?_ (hP 52 _ rfl)
  refine fa_s ?_ (hP 51 _ rfl)
  refine fa_s ?_ (hP 50 _ rfl)
  exact h0
set_option maxRecDepth 20000 in
theorem fir_w6 {E : EV} {u : (Nat → Int32) × (Nat → Int32) × (Nat → Int32) × (Nat → Int32)} {fm : Nat → Int32} {H : Heap} (hP : va_P (eD E) vwCl (wsFir E u fm) H) (h0 : ∀ k, k < 60 → va_at (eD E) vwCl (eA E k, cE E (firM u fm) k) H) : ∀ k, k < 70 → va_at (eD E) vwCl (eA E k, cE E (firM u fm) k) H := by
  refine fa_s ?_ (hP 69 _ rfl)
  refine fa_s ?_ (hP 68 _ rfl)
  refine fa_s ?_ (at_rowq (f := va_up (va_up (va_up (va_up (va_up (va_up (va_up (fun _ => none) 0 (some (eK E 0))) 1 (some (eK E 1))) 2 (some (eK E 2))) 3 (some (eK E 3))) 4 (some (eK E 4))) 5 (some (eK E 5))) 6 (some (eK E 6))) (fun j hj => by rcases (show j = 0 ∨ j = 1 ∨ j = 2 ∨ j = 3 ∨ j = 4 ∨ j = 5 ∨ j = 6 by omega) with rfl | rfl | rfl | rfl | rfl | rfl | rfl <;> rfl) (hP 67 _ rfl))
  refine fa_s ?_ (hP 66 _ rfl)
  refine fa_s ?_ (hP 65 _ rfl)
  refine fa_s ?_ (hP 64 _ rfl)
  refine fa_s ?_ (hP 63 _ rfl)
  refine fa_s ?_ (hP 62 _ rfl)
  refine fa_s ?_ (hP 61 _ rfl)
  refine fa_s ?_ (hP 60 _ rfl)
  exact h0
set_option maxRecDepth 20000 in
theorem fir_w7 {E : EV} {u : (Nat → Int32) × (Nat → Int32) × (Nat → Int32) × (Nat → Int32)} {fm : Nat → Int32} {H : Heap} (hP : va_P (eD E) vwCl (wsFir E u fm) H) (h0 : ∀ k, k < 70 → va_at (eD E) vwCl (eA E k, cE E (firM u fm) k) H) : ∀ k, k < 73 → va_at (eD E) vwCl (eA E k, cE E (firM u fm) k) H := by
  refine fa_s ?_ (hP 72 _ rfl)
  refine fa_s ?_ (hP 71 _ rfl)
  refine fa_s ?_ (hP 70 _ rfl)
  exact h0
theorem fir_wp {E : EV} {u : (Nat → Int32) × (Nat → Int32) × (Nat → Int32) × (Nat → Int32)} {fm : Nat → Int32} {H : Heap} (hP : va_P (eD E) vwCl (wsFir E u fm) H) : WP E (firM u fm) H := by
  intro k q hq
  have hk : k < NC := by rw [← ws_len E (firM u fm)]; exact (List.getElem?_eq_some_iff.mp hq).1
  rw [ws_get _ _ hk] at hq
  cases hq
  exact (fir_w7 hP (fir_w6 hP (fir_w5 hP (fir_w4 hP (fir_w3 hP (fir_w2 hP (fir_w1 hP (fir_w0 hP fa_0)))))))) k hk
theorem fir_adr {E : EV} {A : Nat → Prop} {ws : va_W} (hl : ws.map (fun q => q.1) = (List.range 73).map (eA E)) (hD : va_D A ws) : OkE E ∧ ∀ q, AA E q → A q := by
  have key : ∀ i, i < 73 → ∃ q : Nat × va_E, ws[i]? = some q ∧ q.1 = eA E i := by
    intro i hi
    have h : (ws.map (fun q => q.1))[i]? = some (eA E i) := by
      rw [hl, List.getElem?_map, List.getElem?_range hi]; rfl
    rw [List.getElem?_map] at h
    obtain ⟨q, h1, h2⟩ := Option.map_eq_some_iff.mp h
    exact ⟨q, h1, h2⟩
  refine ⟨fun i j hi hj h => ?_, fun q hq => ?_⟩
  · obtain ⟨p, p1, p2⟩ := key i hi
    obtain ⟨q, q1, q2⟩ := key j hj
    exact hD.1 i j p q p1 q1 (by rw [p2, q2]; exact h)
  · obtain ⟨k, hk, rfl⟩ := hq
    obtain ⟨p, p1, p2⟩ := key k hk
    rw [← p2]; exact hD.2 k p p1
theorem fir_ok {E : EV} {u : (Nat → Int32) × (Nat → Int32) × (Nat → Int32) × (Nat → Int32)} {fm : Nat → Int32} {A : Nat → Prop} (hD : va_D A (wsFir E u fm)) : OkE E ∧ ∀ q, AA E q → A q := fir_adr rfl hD
set_option maxHeartbeats 4000000 in
set_option maxRecDepth 20000 in
theorem fir_ad {dC : Nat → ClassId} {dI : Nat → Nat → Nat} {cI cS cT : ClassId} {ek ev : Nat → Nat} {uu : Nat} {u : (Nat → Int32) × (Nat → Int32) × (Nat → Int32) × (Nat → Int32)} {fm : Nat → Int32} {a0 aq1 aq2 aq3 aq4 aq5 aq6 aq7 aq8 aq9 aq10 aq11 aq12 aq13 aq14 aq15 aq16 aq17 aq18 aq19 aq20 aq21 aq22 aq23 aq24 aq25 aq26 aq27 aq28 aq29 aq30 aq31 aq32 aq33 aq34 aq35 aq36 aq37 aq38 aq39 aq40 aq41 aq42 aq43 aq44 aq45 aq46 aq47 aq48 aq49 aq50 aq51 aq52 aq53 aq54 aq55 aq56 b0 bq1 bq2 bq3 bq4 bq5 bq6 bq7 bq8 bq9 bq10 bq11 bq12 bq13 bq14 bq15 : Nat} : wsFir (firE dC dI (a0 :: aq1 :: aq2 :: aq3 :: aq4 :: aq5 :: aq6 :: aq7 :: aq8 :: aq9 :: aq10 :: aq11 :: aq12 :: aq13 :: aq14 :: aq15 :: aq16 :: aq17 :: aq18 :: aq19 :: aq20 :: aq21 :: aq22 :: aq23 :: aq24 :: aq25 :: aq26 :: aq27 :: aq28 :: aq29 :: aq30 :: aq31 :: aq32 :: aq33 :: aq34 :: aq35 :: aq36 :: aq37 :: aq38 :: aq39 :: aq40 :: aq41 :: aq42 :: aq43 :: aq44 :: aq45 :: aq46 :: aq47 :: aq48 :: aq49 :: aq50 :: aq51 :: aq52 :: aq53 :: aq54 :: aq55 :: aq56 :: b0 :: bq1 :: bq2 :: bq3 :: bq4 :: bq5 :: bq6 :: bq7 :: bq8 :: bq9 :: bq10 :: bq11 :: bq12 :: bq13 :: bq14 :: bq15 :: []) cI cS cT ek ev uu) u fm = wsAd cI cS cT ek u fm a0 aq1 aq2 aq3 aq4 aq5 aq6 aq7 aq8 aq9 aq10 aq11 aq12 aq13 aq14 aq15 aq16 aq17 aq18 aq19 aq20 aq21 aq22 aq23 aq24 aq25 aq26 aq27 aq28 aq29 aq30 aq31 aq32 aq33 aq34 aq35 aq36 aq37 aq38 aq39 aq40 aq41 aq42 aq43 aq44 aq45 aq46 aq47 aq48 aq49 aq50 aq51 aq52 aq53 aq54 aq55 aq56 b0 bq1 bq2 bq3 bq4 bq5 bq6 bq7 bq8 bq9 bq10 bq11 bq12 bq13 bq14 bq15 := rfl
theorem fir_all {dC : Nat → ClassId} {dI : Nat → Nat → Nat} {cI cS cT : ClassId} {ek ev : Nat → Nat} {uu : Nat} {u : (Nat → Int32) × (Nat → Int32) × (Nat → Int32) × (Nat → Int32)} {fm : Nat → Int32} {a0 aq1 aq2 aq3 aq4 aq5 aq6 aq7 aq8 aq9 aq10 aq11 aq12 aq13 aq14 aq15 aq16 aq17 aq18 aq19 aq20 aq21 aq22 aq23 aq24 aq25 aq26 aq27 aq28 aq29 aq30 aq31 aq32 aq33 aq34 aq35 aq36 aq37 aq38 aq39 aq40 aq41 aq42 aq43 aq44 aq45 aq46 aq47 aq48 aq49 aq50 aq51 aq52 aq53 aq54 aq55 aq56 b0 bq1 bq2 bq3 bq4 bq5 bq6 bq7 bq8 bq9 bq10 bq11 bq12 bq13 bq14 bq15 : Nat} {A : Nat → Prop} {s : State} {H : Heap} (hP : va_P (dC, dI) vwCl (wsAd cI cS cT ek u fm a0 aq1 aq2 aq3 aq4 aq5 aq6 aq7 aq8 aq9 aq10 aq11 aq12 aq13 aq14 aq15 aq16 aq17 aq18 aq19 aq20 aq21 aq22 aq23 aq24 aq25 aq26 aq27 aq28 aq29 aq30 aq31 aq32 aq33 aq34 aq35 aq36 aq37 aq38 aq39 aq40 aq41 aq42 aq43 aq44 aq45 aq46 aq47 aq48 aq49 aq50 aq51 aq52 aq53 aq54 aq55 aq56 b0 bq1 bq2 bq3 bq4 bq5 bq6 bq7 bq8 bq9 bq10 bq11 bq12 bq13 bq14 bq15) H) (hD : va_D A (wsAd cI cS cT ek u fm a0 aq1 aq2 aq3 aq4 aq5 aq6 aq7 aq8 aq9 aq10 aq11 aq12 aq13 aq14 aq15 aq16 aq17 aq18 aq19 aq20 aq21 aq22 aq23 aq24 aq25 aq26 aq27 aq28 aq29 aq30 aq31 aq32 aq33 aq34 aq35 aq36 aq37 aq38 aq39 aq40 aq41 aq42 aq43 aq44 aq45 aq46 aq47 aq48 aq49 aq50 aq51 aq52 aq53 aq54 aq55 aq56 b0 bq1 bq2 bq3 bq4 bq5 bq6 bq7 bq8 bq9 bq10 bq11 bq12 bq13 bq14 bq15)) : ∃ E : EV, eD E = (dC, dI) ∧ eI E = cI ∧ eS E = cS ∧ eT E = cT ∧ eK E = ek ∧ eV E = ev ∧ eU E = uu ∧ eA E 0 = a0 ∧ eA E 57 = b0 ∧ WP E (firM u fm) H ∧ OkE E ∧ ∀ q, AA E q → A q := by
  obtain ⟨E, hE⟩ : ∃ E : EV, E = firE dC dI (a0 :: aq1 :: aq2 :: aq3 :: aq4 :: aq5 :: aq6 :: aq7 :: aq8 :: aq9 :: aq10 :: aq11 :: aq12 :: aq13 :: aq14 :: aq15 :: aq16 :: aq17 :: aq18 :: aq19 :: aq20 :: aq21 :: aq22 :: aq23 :: aq24 :: aq25 :: aq26 :: aq27 :: aq28 :: aq29 :: aq30 :: aq31 :: aq32 :: aq33 :: aq34 :: aq35 :: aq36 :: aq37 :: aq38 :: aq39 :: aq40 :: aq41 :: aq42 :: aq43 :: aq44 :: aq45 :: aq46 :: aq47 :: aq48 :: aq49 :: aq50 :: aq51 :: aq52 :: aq53 :: aq54 :: aq55 :: aq56 :: b0 :: bq1 :: bq2 :: bq3 :: bq4 :: bq5 :: bq6 :: bq7 :: bq8 :: bq9 :: bq10 :: bq11 :: bq12 :: bq13 :: bq14 :: bq15 :: []) cI cS cT ek ev uu := ⟨_, rfl⟩
  have e := @fir_ad dC dI cI cS cT ek ev uu u fm a0 aq1 aq2 aq3 aq4 aq5 aq6 aq7 aq8 aq9 aq10 aq11 aq12 aq13 aq14 aq15 aq16 aq17 aq18 aq19 aq20 aq21 aq22 aq23 aq24 aq25 aq26 aq27 aq28 aq29 aq30 aq31 aq32 aq33 aq34 aq35 aq36 aq37 aq38 aq39 aq40 aq41 aq42 aq43 aq44 aq45 aq46 aq47 aq48 aq49 aq50 aq51 aq52 aq53 aq54 aq55 aq56 b0 bq1 bq2 bq3 bq4 bq5 bq6 bq7 bq8 bq9 bq10 bq11 bq12 bq13 bq14 bq15
  rw [← hE] at e
  rw [← e] at hP hD
  have h1 : eD E = (dC, dI) := by rw [hE]; rfl
  rw [← h1] at hP
  exact ⟨E, h1, by rw [hE]; rfl, by rw [hE]; rfl, by rw [hE]; rfl, by rw [hE]; rfl, by rw [hE]; rfl, by rw [hE]; rfl, by rw [hE]; rfl, by rw [hE]; rfl, fir_wp hP, fir_ok hD⟩
theorem mI_0 : mI 0 = -1 := by decide +kernel
theorem mI_1 : mI 1 = 0 := by decide +kernel
def firL : Lan := (fun _ => 0, fun _ => 0, fun _ => 0, fun _ => 0, fun _ => 1, fun _ => 0, 0, 0, 65535, 0, 0, 1)
def firS : Sta := (firL, firL, false, fun _ => 0, 0, fun _ => 0, fun _ => 0, fun _ _ => 0, fun _ => 0)
theorem fir_fn : fnS firS = 0 := by decide +kernel
theorem fir_wf : WFS firS := by
  have hW : WF firL := ⟨by decide, by decide, by decide, fun i _ => ⟨by show (0 : Nat) ≤ 6; omega, by show (0 : Nat) ≤ 99; omega, by show (0 : Nat) ≤ 9; omega, by show (0 : Nat) < 65536; omega⟩, fun i hi => absurd hi (Nat.not_lt_zero i), fun s _ => Nat.le_refl _⟩
  exact ⟨hW, fun h => (by cases h), Nat.zero_le _, fun i => (by show (0 : Nat) < 256; omega), fun s _ => ⟨Or.inl rfl, Nat.zero_le _⟩⟩
theorem fir_ac {u : (Nat → Int32) × (Nat → Int32) × (Nat → Int32) × (Nat → Int32)} {fm : Nat → Int32} (h1 : ∀ j, j < 10 → u.1 j = -1) : AC (firM u fm) firS := by
  refine ⟨⟨fun i hi => rfl, fun i hi => rfl, fun i hi => rfl, fun i hi => rfl, fun i hi => mI_1.symm, fun i hi => (h1 i hi).trans mI_0.symm, rfl, rfl, rfl, rfl, rfl, rfl⟩, fun h => (by cases h), rfl, fun i hi => absurd hi (Nat.not_lt_zero i), rfl, fun s hs => ?_, fun f hf => rfl⟩
  rcases (show s = 0 ∨ s = 1 ∨ s = 2 ∨ s = 3 by omega) with rfl | rfl | rfl | rfl <;> exact ⟨rfl, rfl, fun i hi => rfl⟩
theorem fir_ar {u : (Nat → Int32) × (Nat → Int32) × (Nat → Int32) × (Nat → Int32)} {fm : Nat → Int32} (hm : ∀ j, fm j = if 6 ≤ j ∧ j < 16 then -1 else if j = 3 then 65535 else if j = 5 then 1 else 0) : AR (firM u fm) firS := by
  have z : ∀ j, 16 ≤ j → fm j = 0 := fun j hj => by rw [hm j, if_neg (by omega), if_neg (by omega), if_neg (by omega)]
  refine ⟨⟨fun i hi => (z _ (by omega)).trans rfl, fun i hi => (z _ (by omega)).trans rfl, fun i hi => (z _ (by omega)).trans rfl, fun i hi => (z _ (by omega)).trans rfl, fun i hi => (z _ (by omega)).trans mI_1.symm, fun i hi => ?_, (hm 4).trans rfl, (hm 3).trans rfl, (hm 0).trans rfl, (hm 1).trans rfl, (hm 2).trans rfl, (hm 5).trans rfl⟩, fun h => (by cases h), rfl, fun i hi => absurd hi (Nat.not_lt_zero i), rfl, fun s hs => ⟨rfl, rfl, fun i hi => rfl⟩, fun f hf => rfl, fir_fn.symm⟩
  have : fm (6 + i) = -1 := by rw [hm (6 + i), if_pos (by omega)]
  exact this.trans mI_0.symm

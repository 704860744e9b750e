/-! my own base: worlds in segments, contracts of methods that make nothing, their calls, their ends -/
theorem kb_at {α : Type} (a b c : List α) {k : Nat} {q : α} (h : b[k]? = some q) : (a ++ (b ++ c))[a.length + k]? = some q := by
  rw [List.getElem?_append_right (Nat.le_add_right _ _), Nat.add_sub_cancel_left, List.getElem?_append_left (List.getElem?_eq_some_iff.mp h).1]
  exact h
theorem kb_l {α : Type} (a b : List α) {k : Nat} {q : α} (h : a[k]? = some q) : (a ++ b)[k]? = some q := by
  rw [List.getElem?_append_left (List.getElem?_eq_some_iff.mp h).1]
  exact h
theorem kb_r {α : Type} (a b c : List α) {k : Nat} {q : α} (h : c[k]? = some q) : (a ++ (b ++ c))[a.length + (b.length + k)]? = some q := by
  rw [List.getElem?_append_right (Nat.le_add_right _ _), Nat.add_sub_cancel_left, List.getElem?_append_right (Nat.le_add_right _ _), Nat.add_sub_cancel_left]
  exact h
theorem kb_P {D : va_G} {cl : List vw_C} {a b c : va_W} {H : Heap} (h : va_P D cl (a ++ (b ++ c)) H) : va_P D cl b H := h.by (fun k => a.length + k) (fun _ _ hk => kb_at a b c hk)
theorem kb_D {A : Nat → Prop} {a b c : va_W} (h : va_D A (a ++ (b ++ c))) : va_D A b := h.by (fun k => a.length + k) (fun _ _ hk => kb_at a b c hk) (fun _ _ _ _ e => Nat.add_left_cancel e)
theorem kb_F {A0 : Nat → Prop} {a b c : va_W} {H0 H : Heap} {locs : List Loc} (hD : va_D A0 (a ++ (b ++ c))) (hS : va_S A0 H0 H locs) (hA : ∀ q, H0.size ≤ q → A0 q) : ∀ q, va_A b H.size q → A0 q := by
  intro q h
  rcases h with ⟨k, e, h⟩ | h
  · exact (kb_D hD).2 k (q, e) h
  · exact hA q (Nat.le_trans hS.1 h)
/-- behind a call on the middle segment -/
theorem kb_join {A0 : Nat → Prop} {D : va_G} {cl : List vw_C} {a b c w1 : va_W} {H H1 : Heap} (hP : va_P D cl (a ++ (b ++ c)) H) (hD : va_D A0 (a ++ (b ++ c))) (hk : ∀ q : Nat, q < H.size → ¬ va_A b H.size q → H1[q]? = H[q]?) (hF : ∀ q, va_A b H.size q → A0 q) (hP1 : va_P D cl w1 H1) (hD1 : va_D (va_A b H.size) w1) : va_P D cl (a ++ (w1 ++ c)) H1 ∧ va_D A0 (a ++ (w1 ++ c)) := by
  have out : ∀ (i : Nat) (q : Nat × va_E), (a ++ (b ++ c))[i]? = some q → (i < a.length ∨ a.length + b.length ≤ i) → q.1 < H.size ∧ ¬ va_A b H.size q.1 := by
    intro i q hq ho
    have hl := (hP i q hq).lt
    refine ⟨hl, fun h => ?_⟩
    rcases h with ⟨k, e, h⟩ | h
    · have h1 := kb_at a b c h
      have h2 := hD.1 i (a.length + k) q (q.1, e) hq h1 rfl
      have h3 := (List.getElem?_eq_some_iff.mp h).1
      omega
    · omega
  have outA : ∀ (i : Nat) (q : Nat × va_E), a[i]? = some q → q.1 < H.size ∧ ¬ va_A b H.size q.1 := fun i q hq => out i q (kb_l a _ hq) (Or.inl (List.getElem?_eq_some_iff.mp hq).1)
  have outC : ∀ (i : Nat) (q : Nat × va_E), c[i]? = some q → q.1 < H.size ∧ ¬ va_A b H.size q.1 := fun i q hq => out _ q (kb_r a b c hq) (Or.inr (by omega))
  have hDa : va_D A0 a := hD.by id (fun k q hk => kb_l a _ hk) (fun _ _ _ _ e => e)
  have hDc : va_D A0 c := hD.by (fun k => a.length + (b.length + k)) (fun k q hk => kb_r a b c hk) (fun _ _ _ _ e => by omega)
  have hD1' : va_D A0 w1 := hD1.weaken (fun k q _ h => hF q.1 h)
  refine ⟨va_P.app (fun k q hq => ?_) (va_P.app hP1 (fun k q hq => ?_)), va_D.app hDa (va_D.app hD1' hDc (fun i j x y hx hy hxy => ?_)) (fun i j x y hx hy hxy => ?_)⟩
  · obtain ⟨g1, g2⟩ := outA k q hq
    exact (hP k q (kb_l a _ hq)).kept (hk q.1 g1 g2)
  · obtain ⟨g1, g2⟩ := outC k q hq
    exact (hP _ q (kb_r a b c hq)).kept (hk q.1 g1 g2)
  · exact (outC j y hy).2 (by rw [← hxy]; exact hD1.2 i x hx)
  · rcases Nat.lt_or_ge j w1.length with hj | hj
    · rw [List.getElem?_append_left hj] at hy
      exact (outA i x hx).2 (by rw [hxy]; exact hD1.2 j y hy)
    · rw [List.getElem?_append_right hj] at hy
      have := hD.1 i _ x y (kb_l a _ hx) (kb_r a b c hy) hxy
      have h3 := (List.getElem?_eq_some_iff.mp hx).1
      omega
/-- what an array's cell shows is its places below its length -/
theorem kb_arr {D : va_G} {cl : List vw_C} {a b : va_W} {H : Heap} {q : Nat} {cA : ClassId} {n : Nat} {f g : Nat → Int32} (hP : va_P D cl (a ++ ((q, .inl (cA, n, .inl f)) :: b)) H) (h : ∀ j, j < n → f j = g j) : va_P D cl (a ++ ((q, .inl (cA, n, .inl g)) :: b)) H := by
  intro k x hk
  rcases Nat.lt_or_ge k a.length with h1 | h1
  · exact hP k x (by rw [List.getElem?_append_left h1] at hk ⊢; exact hk)
  · rw [List.getElem?_append_right h1] at hk
    rcases Nat.eq_zero_or_pos (k - a.length) with h2 | h2
    · rw [h2] at hk
      cases hk
      have h3 := hP k (q, .inl (cA, n, .inl f)) (by rw [List.getElem?_append_right h1, h2]; rfl)
      show H[q]? = some (vp_cell cA (n, .inl g))
      rw [show H[q]? = some (vp_cell cA (n, .inl f)) from h3, vp_cell_i, vp_cell_i]
      congr 1
      simp only [arrV, Cell.mk.injEq, true_and, and_true]
      apply Array.ext (by simp)
      intro i hi _
      simp only [Array.getElem_ofFn]
      rw [h i (by simpa using hi)]
    · refine hP k x ?_
      rw [List.getElem?_append_right h1]
      obtain ⟨j, hj⟩ := Nat.exists_eq_succ_of_ne_zero (Nat.ne_of_gt h2)
      rw [hj] at hk ⊢
      exact hk
abbrev kRm (fr lo : Nat) : Room := { frames := fr, cells := 0, slots := 0, locals := lo }
/-- contracts of methods that make nothing: from the world wi to the world wo; they answer r -/
def kI (l : Launch) (D : va_G) (K : State → Prop) (y : MethodName) (ws : List Cond) (fr lo : Nat) (av : List Value) (wi : va_W) (r : Int32) (wo : va_W) : Prop :=
  ∀ sz : Nat, Met l y ws (kRm fr lo) (va_Pc av (fun U => U.heap.size = sz ∧ va_P D vwCl wi U.heap ∧ K U ∧ va_D (fun _ => True) wi)) (va_Qi (fun (r' : Int32) (_ : Unit) => r' = r) (fun _ t => va_P D vwCl wo t.heap ∧ va_D (va_A wi sz) wo) (va_A wi sz)) 0 0 (va_A wi sz)
def kJ (l : Launch) (D : va_G) (K : State → Prop) (y : MethodName) (ws : List Cond) (fr lo : Nat) (av : List Value) (wi : va_W) (r : Int64) (wo : va_W) : Prop :=
  ∀ sz : Nat, Met l y ws (kRm fr lo) (va_Pc av (fun U => U.heap.size = sz ∧ va_P D vwCl wi U.heap ∧ K U ∧ va_D (fun _ => True) wi)) (va_Ql (fun (r' : Int64) (_ : Unit) => r' = r) (fun _ t => va_P D vwCl wo t.heap ∧ va_D (va_A wi sz) wo) (va_A wi sz)) 0 0 (va_A wi sz)
def kF (l : Launch) (D : va_G) (K : State → Prop) (y : MethodName) (ws : List Cond) (fr lo : Nat) (av : List Value) (wi : va_W) (r : UInt64) (wo : va_W) : Prop :=
  ∀ sz : Nat, Met l y ws (kRm fr lo) (va_Pc av (fun U => U.heap.size = sz ∧ va_P D vwCl wi U.heap ∧ K U ∧ va_D (fun _ => True) wi)) (va_Qd (fun (r' : UInt64) (_ : Unit) => r' = r) (fun _ t => va_P D vwCl wo t.heap ∧ va_D (va_A wi sz) wo) (va_A wi sz)) 0 0 (va_A wi sz)
def kV (l : Launch) (D : va_G) (K : State → Prop) (y : MethodName) (ws : List Cond) (fr lo : Nat) (av : List Value) (wi : va_W) (wo : va_W) : Prop :=
  ∀ sz : Nat, Met l y ws (kRm fr lo) (va_Pc av (fun U => U.heap.size = sz ∧ va_P D vwCl wi U.heap ∧ K U ∧ va_D (fun _ => True) wi)) (va_Qv (fun (_ : Unit) => True) (fun _ t => va_P D vwCl wo t.heap ∧ va_D (va_A wi sz) wo) (va_A wi sz)) 0 0 (va_A wi sz)
def kR (l : Launch) (D : va_G) (K : State → Prop) (y : MethodName) (ws : List Cond) (fr lo : Nat) (av : List Value) (wi : va_W) (r : Option Nat) (wo : va_W) : Prop :=
  ∀ sz : Nat, Met l y ws (kRm fr lo) (va_Pc av (fun U => U.heap.size = sz ∧ va_P D vwCl wi U.heap ∧ K U ∧ va_D (fun _ => True) wi)) (va_Qq (fun (r' : Option Nat) (_ : Unit) => r' = r) (fun _ t => va_P D vwCl wo t.heap ∧ va_D (va_A wi sz) wo) (va_A wi sz)) 0 0 (va_A wi sz)
section KC
variable {p : Program} {l : Launch} {e : Env} {R : Room} {s : State} {m : MethodId} {args : Array Value} {below : List Frame} {meth : Method} {c : Code} {H : Heap} {locs : List Loc} {cells slots : Nat} {Q : State → Prop}
variable {D : va_G} {K : State → Prop} {y : MethodName} {ws ws' : List Cond} {fr lo : Nat} {b : Nat} {As rest st0 : List Value} {wi wo w w' : va_W} {Ts : List Cond} {own C : String} {cc bytes : ByteArray} {maxL nL index n pc : Nat} {ret : Option FieldType} {ls : Array Slot} {A0 : Nat → Prop} {H0 : Heap} {fs : List Value} {ci q0 : Nat} {T : u_T} {N : Nat} {tys : List (ClassId × FieldType)}
/-- what speaks of the tables alone -/
def kK (K : State → Prop) : Prop := ∀ u U : State, u.WarmedH U.vm → K u → K U
theorem kK_mov (hK : kK K) {u U : State} (h : U.vm = u.vm) (hu : K u) : K U := hK u U (by rw [h]; exact State.WarmedH.refl u) hu
theorem kb_pre (hKK : kK K) {av : List Value} {sz : Nat} : FrameBlind (va_Pc av (fun U => U.heap.size = sz ∧ va_P D vwCl wi U.heap ∧ K U ∧ va_D (fun _ => True) wi)) := fun a U g mk q => by
  obtain ⟨q0, q1, qP, qK, qD⟩ := q
  exact ⟨q0, q1, qP, kK_mov hKK (u := U) (U := U.calling g mk a) rfl qK, qD⟩
theorem kb_preV (hKK : kK K) (hKs : K s) (hK : va_K D vwCl tys s) (hP : va_P D vwCl wi H) (hD : va_D A0 wi) (hci : vwCl[ci]? = some (C, T, N)) (he : wi[q0]? = some (b, .inr (ci, fs))) : PreV s H C b (va_Pc (.ref b :: As) (fun U => U.heap.size = H.size ∧ va_P D vwCl wi U.heap ∧ K U ∧ va_D (fun _ => True) wi)) As :=
  ⟨kb_pre hKK, va_recv hK hP hci he, fun U hU hW => ⟨rfl, by rw [hU], by rw [hU]; exact hP, hKK s U hW hKs, hD.weaken (fun _ _ _ _ => trivial)⟩⟩
theorem kcI {r : Int32} (hKK : kK K) (hM : kI l D K y ws fr lo (.ref b :: As) wi r wo) (S : CallFix p m c cc nL s args Ts own) (cw : CallW R s args own C index y bytes maxL ret ws (kRm fr lo) 0 0 n) (hKs : K s) (hK : va_K D vwCl tys s)
    (hP : va_P D vwCl w H) (hD : va_D A0 w) (hS : va_S A0 H0 H locs) (hA : ∀ q, H0.size ≤ q → A0 q) (wl wr : va_W) (hw : w = wl ++ (wi ++ wr)) (hw' : wl ++ (wo ++ wr) = w') (hci : vwCl[ci]? = some (C, T, N)) (he : wi[q0]? = some (b, .inr (ci, fs)))
    (hst : st0 = As.reverse ++ .ref b :: rest) (hn : As.length = n) (hsize : ls.size = nL) (hrm : (rest.map fun v => v.category).sum ≤ 8) (hdg : decode cc pc = .ok (.invokevirtual index, 3)) (hc : cells ≤ R.cells ∧ slots ≤ R.slots)
    (kk : ∀ (H1 : Heap) (locs1 : List Loc), va_P D vwCl w' H1 → va_D A0 w' → va_S A0 H0 H1 locs1 → W p l e R s m args below meth c H1 locs1 cells slots Q (F0 m (pc + 3) ls (.int r :: rest))) : W p l e R s m args below meth c H locs cells slots Q (F0 m pc ls st0) := by
  subst hw; subst hw'; subst hst
  have hF := kb_F hD hS hA
  refine va_calli (va_runV (As := As) (rest := rest) S (hM H.size) cw (kb_preV hKK hKs hK (kb_P hP) (kb_D hD) hci he) rfl hn hsize rfl (lv_room hrm) hdg hc) hS (fun q _ h => hF q h) hF (fun r1 u t H1 locs1 ht hvm hr1 hB hz1 hk1 hS1 => ?_)
  obtain ⟨hP1, hD1⟩ := hB
  rw [ht] at hP1
  obtain ⟨a1, a2⟩ := kb_join hP hD hk1 hF hP1 hD1
  rw [show r1 = r from hr1]
  exact kk H1 locs1 a1 a2 hS1
theorem kcJ {r : Int64} (hKK : kK K) (hM : kJ l D K y ws fr lo (.ref b :: As) wi r wo) (S : CallFix p m c cc nL s args Ts own) (cw : CallW R s args own C index y bytes maxL ret ws (kRm fr lo) 0 0 n) (hKs : K s) (hK : va_K D vwCl tys s)
    (hP : va_P D vwCl w H) (hD : va_D A0 w) (hS : va_S A0 H0 H locs) (hA : ∀ q, H0.size ≤ q → A0 q) (wl wr : va_W) (hw : w = wl ++ (wi ++ wr)) (hw' : wl ++ (wo ++ wr) = w') (hci : vwCl[ci]? = some (C, T, N)) (he : wi[q0]? = some (b, .inr (ci, fs)))
    (hst : st0 = As.reverse ++ .ref b :: rest) (hn : As.length = n) (hsize : ls.size = nL) (hrm : (rest.map fun v => v.category).sum ≤ 8) (hdg : decode cc pc = .ok (.invokevirtual index, 3)) (hc : cells ≤ R.cells ∧ slots ≤ R.slots)
    (kk : ∀ (H1 : Heap) (locs1 : List Loc), va_P D vwCl w' H1 → va_D A0 w' → va_S A0 H0 H1 locs1 → W p l e R s m args below meth c H1 locs1 cells slots Q (F0 m (pc + 3) ls (.long r :: rest))) : W p l e R s m args below meth c H locs cells slots Q (F0 m pc ls st0) := by
  subst hw; subst hw'; subst hst
  have hF := kb_F hD hS hA
  refine va_calll (va_runV (As := As) (rest := rest) S (hM H.size) cw (kb_preV hKK hKs hK (kb_P hP) (kb_D hD) hci he) rfl hn hsize rfl (lv_room hrm) hdg hc) hS (fun q _ h => hF q h) hF (fun r1 u t H1 locs1 ht hvm hr1 hB hz1 hk1 hS1 => ?_)
  obtain ⟨hP1, hD1⟩ := hB
  rw [ht] at hP1
  obtain ⟨a1, a2⟩ := kb_join hP hD hk1 hF hP1 hD1
  rw [show r1 = r from hr1]
  exact kk H1 locs1 a1 a2 hS1
theorem kcF {r : UInt64} (hKK : kK K) (hM : kF l D K y ws fr lo (.ref b :: As) wi r wo) (S : CallFix p m c cc nL s args Ts own) (cw : CallW R s args own C index y bytes maxL ret ws (kRm fr lo) 0 0 n) (hKs : K s) (hK : va_K D vwCl tys s)
    (hP : va_P D vwCl w H) (hD : va_D A0 w) (hS : va_S A0 H0 H locs) (hA : ∀ q, H0.size ≤ q → A0 q) (wl wr : va_W) (hw : w = wl ++ (wi ++ wr)) (hw' : wl ++ (wo ++ wr) = w') (hci : vwCl[ci]? = some (C, T, N)) (he : wi[q0]? = some (b, .inr (ci, fs)))
    (hst : st0 = As.reverse ++ .ref b :: rest) (hn : As.length = n) (hsize : ls.size = nL) (hrm : (rest.map fun v => v.category).sum ≤ 8) (hdg : decode cc pc = .ok (.invokevirtual index, 3)) (hc : cells ≤ R.cells ∧ slots ≤ R.slots)
    (kk : ∀ (H1 : Heap) (locs1 : List Loc), va_P D vwCl w' H1 → va_D A0 w' → va_S A0 H0 H1 locs1 → W p l e R s m args below meth c H1 locs1 cells slots Q (F0 m (pc + 3) ls (.double r :: rest))) : W p l e R s m args below meth c H locs cells slots Q (F0 m pc ls st0) := by
  subst hw; subst hw'; subst hst
  have hF := kb_F hD hS hA
  refine va_calld (va_runV (As := As) (rest := rest) S (hM H.size) cw (kb_preV hKK hKs hK (kb_P hP) (kb_D hD) hci he) rfl hn hsize rfl (lv_room hrm) hdg hc) hS (fun q _ h => hF q h) hF (fun r1 u t H1 locs1 ht hvm hr1 hB hz1 hk1 hS1 => ?_)
  obtain ⟨hP1, hD1⟩ := hB
  rw [ht] at hP1
  obtain ⟨a1, a2⟩ := kb_join hP hD hk1 hF hP1 hD1
  rw [show r1 = r from hr1]
  exact kk H1 locs1 a1 a2 hS1
theorem kcV (hKK : kK K) (hM : kV l D K y ws fr lo (.ref b :: As) wi wo) (S : CallFix p m c cc nL s args Ts own) (cw : CallW R s args own C index y bytes maxL ret ws (kRm fr lo) 0 0 n) (hKs : K s) (hK : va_K D vwCl tys s)
    (hP : va_P D vwCl w H) (hD : va_D A0 w) (hS : va_S A0 H0 H locs) (hA : ∀ q, H0.size ≤ q → A0 q) (wl wr : va_W) (hw : w = wl ++ (wi ++ wr)) (hw' : wl ++ (wo ++ wr) = w') (hci : vwCl[ci]? = some (C, T, N)) (he : wi[q0]? = some (b, .inr (ci, fs)))
    (hst : st0 = As.reverse ++ .ref b :: rest) (hn : As.length = n) (hsize : ls.size = nL) (hrm : (rest.map fun v => v.category).sum ≤ 8) (hdg : decode cc pc = .ok (.invokevirtual index, 3)) (hc : cells ≤ R.cells ∧ slots ≤ R.slots)
    (kk : ∀ (H1 : Heap) (locs1 : List Loc), va_P D vwCl w' H1 → va_D A0 w' → va_S A0 H0 H1 locs1 → W p l e R s m args below meth c H1 locs1 cells slots Q (F0 m (pc + 3) ls rest)) : W p l e R s m args below meth c H locs cells slots Q (F0 m pc ls st0) := by
  subst hw; subst hw'; subst hst
  have hF := kb_F hD hS hA
  refine va_callv (va_runV (As := As) (rest := rest) S (hM H.size) cw (kb_preV hKK hKs hK (kb_P hP) (kb_D hD) hci he) rfl hn hsize rfl (lv_room hrm) hdg hc) hS (fun q _ h => hF q h) hF (fun u t H1 locs1 ht hvm hr1 hB hz1 hk1 hS1 => ?_)
  obtain ⟨hP1, hD1⟩ := hB
  rw [ht] at hP1
  obtain ⟨a1, a2⟩ := kb_join hP hD hk1 hF hP1 hD1
  exact kk H1 locs1 a1 a2 hS1
theorem kcR {r : Option Nat} (hKK : kK K) (hM : kR l D K y ws fr lo (.ref b :: As) wi r wo) (S : CallFix p m c cc nL s args Ts own) (cw : CallW R s args own C index y bytes maxL ret ws (kRm fr lo) 0 0 n) (hKs : K s) (hK : va_K D vwCl tys s)
    (hP : va_P D vwCl w H) (hD : va_D A0 w) (hS : va_S A0 H0 H locs) (hA : ∀ q, H0.size ≤ q → A0 q) (wl wr : va_W) (hw : w = wl ++ (wi ++ wr)) (hw' : wl ++ (wo ++ wr) = w') (hci : vwCl[ci]? = some (C, T, N)) (he : wi[q0]? = some (b, .inr (ci, fs)))
    (hst : st0 = As.reverse ++ .ref b :: rest) (hn : As.length = n) (hsize : ls.size = nL) (hrm : (rest.map fun v => v.category).sum ≤ 8) (hdg : decode cc pc = .ok (.invokevirtual index, 3)) (hc : cells ≤ R.cells ∧ slots ≤ R.slots)
    (kk : ∀ (H1 : Heap) (locs1 : List Loc), va_P D vwCl w' H1 → va_D A0 w' → va_S A0 H0 H1 locs1 → W p l e R s m args below meth c H1 locs1 cells slots Q (F0 m (pc + 3) ls (va_rf r :: rest))) : W p l e R s m args below meth c H locs cells slots Q (F0 m pc ls st0) := by
  subst hw; subst hw'; subst hst
  have hF := kb_F hD hS hA
  refine va_callq (va_runV (As := As) (rest := rest) S (hM H.size) cw (kb_preV hKK hKs hK (kb_P hP) (kb_D hD) hci he) rfl hn hsize rfl (lv_room hrm) hdg hc) hS (fun q _ h => hF q h) hF (fun r1 u t H1 locs1 ht hvm hr1 hB hz1 hk1 hS1 => ?_)
  obtain ⟨hP1, hD1⟩ := hB
  rw [ht] at hP1
  obtain ⟨a1, a2⟩ := kb_join hP hD hk1 hF hP1 hD1
  rw [show r1 = r from hr1]
  exact kk H1 locs1 a1 a2 hS1
/-- what a body owes at its end -/
abbrev kQI (D : va_G) (below : List Frame) (r : Int32) (wo : va_W) (A : Nat → Prop) (a : Array Value) (s : State) : State → Prop := MQ below (va_Qi (fun (r' : Int32) (_ : Unit) => r' = r) (fun _ t => va_P D vwCl wo t.heap ∧ va_D A wo) A) a s 0 0 A
abbrev kQJ (D : va_G) (below : List Frame) (r : Int64) (wo : va_W) (A : Nat → Prop) (a : Array Value) (s : State) : State → Prop := MQ below (va_Ql (fun (r' : Int64) (_ : Unit) => r' = r) (fun _ t => va_P D vwCl wo t.heap ∧ va_D A wo) A) a s 0 0 A
abbrev kQF (D : va_G) (below : List Frame) (r : UInt64) (wo : va_W) (A : Nat → Prop) (a : Array Value) (s : State) : State → Prop := MQ below (va_Qd (fun (r' : UInt64) (_ : Unit) => r' = r) (fun _ t => va_P D vwCl wo t.heap ∧ va_D A wo) A) a s 0 0 A
abbrev kQV (D : va_G) (below : List Frame) (wo : va_W) (A : Nat → Prop) (a : Array Value) (s : State) : State → Prop := MQ below (va_Qv (fun (_ : Unit) => True) (fun _ t => va_P D vwCl wo t.heap ∧ va_D A wo) A) a s 0 0 A
abbrev kQR (D : va_G) (below : List Frame) (r : Option Nat) (wo : va_W) (A : Nat → Prop) (a : Array Value) (s : State) : State → Prop := MQ below (va_Qq (fun (r' : Option Nat) (_ : Unit) => r' = r) (fun _ t => va_P D vwCl wo t.heap ∧ va_D A wo) A) a s 0 0 A
theorem krI {A : Nat → Prop} {r v : Int32} (hx : p.tables.exec = Jvm.exec) (hb : c.code = cc) (hr : meth.sig.returnType = some .int) (hlocks : meth.locks = false) (hP : va_P D vwCl w H) (hD : va_D A w) (hS : va_S A s.heap H locs) (hdg : decode cc pc = .ok (.ireturn, 1)) (hv : v = r) (hw : w = wo) : W p l e R s m args below meth c H locs 0 0 (kQI D below r wo A args s) (F0 m pc ls [.int v]) := by
  subst hv; subst hw
  exact W.iret hx hb hr (fun t ht hW => ⟨⟨v, (), rfl, rfl, by rw [ht]; exact hP, hD⟩, hS.F ht⟩) hS.2.2 hdg
theorem krZ {A : Nat → Prop} {r v : Int32} {ty : FieldType} (hx : p.tables.exec = Jvm.exec) (hb : c.code = cc) (hr : meth.sig.returnType = some ty) (hlocks : meth.locks = false) (hP : va_P D vwCl w H) (hD : va_D A w) (hS : va_S A s.heap H locs) (hdg : decode cc pc = .ok (.ireturn, 1)) (hn : narrow ty (.int v) = .int v) (hv : v = r) (hw : w = wo) : W p l e R s m args below meth c H locs 0 0 (kQI D below r wo A args s) (F0 m pc ls [.int v]) := by
  subst hv; subst hw
  exact W.zret hx hb hr hn (fun t ht hW => ⟨⟨v, (), rfl, rfl, by rw [ht]; exact hP, hD⟩, hS.F ht⟩) hS.2.2 hdg
theorem krJ {A : Nat → Prop} {r v : Int64} (hx : p.tables.exec = Jvm.exec) (hb : c.code = cc) (hr : meth.sig.returnType = some .long) (hlocks : meth.locks = false) (hP : va_P D vwCl w H) (hD : va_D A w) (hS : va_S A s.heap H locs) (hdg : decode cc pc = .ok (.lreturn, 1)) (hv : v = r) (hw : w = wo) : W p l e R s m args below meth c H locs 0 0 (kQJ D below r wo A args s) (F0 m pc ls [.long v]) := by
  subst hv; subst hw
  exact W.lret hx hb hr (fun t ht hW => ⟨⟨v, (), rfl, rfl, by rw [ht]; exact hP, hD⟩, hS.F ht⟩) hS.2.2 hdg
theorem krF {A : Nat → Prop} {r v : UInt64} (hx : p.tables.exec = Jvm.exec) (hb : c.code = cc) (hr : meth.sig.returnType = some .double) (hlocks : meth.locks = false) (hP : va_P D vwCl w H) (hD : va_D A w) (hS : va_S A s.heap H locs) (hdg : decode cc pc = .ok (.dreturn, 1)) (hv : v = r) (hw : w = wo) : W p l e R s m args below meth c H locs 0 0 (kQF D below r wo A args s) (F0 m pc ls [.double v]) := by
  subst hv; subst hw
  exact W.dret hx hb hr (fun t ht hW => ⟨⟨v, (), rfl, rfl, by rw [ht]; exact hP, hD⟩, hS.F ht⟩) hS.2.2 hdg
theorem krV {A : Nat → Prop} (hx : p.tables.exec = Jvm.exec) (hb : c.code = cc) (hr : meth.sig.returnType = none) (hlocks : meth.locks = false) (hP : va_P D vwCl w H) (hD : va_D A w) (hS : va_S A s.heap H locs) (hdg : decode cc pc = .ok (.return_, 1)) (hw : w = wo) : W p l e R s m args below meth c H locs 0 0 (kQV D below wo A args s) (F0 m pc ls []) := by
  subst hw
  exact W.vret hx hb hr (fun t ht hW => ⟨⟨(), rfl, trivial, by rw [ht]; exact hP, hD⟩, hS.F ht⟩) hS.2.2 hdg
theorem krR {A : Nat → Prop} {r v : Option Nat} {rt : FieldType} (hx : p.tables.exec = Jvm.exec) (hb : c.code = cc) (hr : meth.sig.returnType = some rt) (hrt : (∃ n, rt = .object n) ∨ ∃ t, rt = .array t) (hlocks : meth.locks = false) (hP : va_P D vwCl w H) (hD : va_D A w) (hS : va_S A s.heap H locs) (hdg : decode cc pc = .ok (.areturn, 1)) (hv : v = r) (hw : w = wo) : W p l e R s m args below meth c H locs 0 0 (kQR D below r wo A args s) (F0 m pc ls [va_rf v]) := by
  subst hv; subst hw
  exact W.aret hx hb hr hrt (by cases v with | none => exact Or.inl rfl | some a => exact Or.inr ⟨a, rfl⟩) (fun t ht hW => ⟨⟨v, (), rfl, rfl, by rw [ht]; exact hP, hD⟩, hS.F ht⟩) hS.2.2 hdg
/-- a contract by its body -/
theorem kI_of {r : Int32} {av : List Value} (hKt : ∀ U, K U → va_K D vwCl tys U) (hy : plainName y.cls = true) (hyc : y.cls = own) (hw : ws = Cond.code y cc maxL ret :: ws') (hav : (lg_sl av).length ≤ maxL)
    (body : ∀ (p : Program) (e : Env) (s : State) (m : MethodId) (below : List Frame) (meth : Method) (c : Code) (A : Nat → Prop) (ls : Array Slot), p.tables.exec = Jvm.exec → c.code = cc → meth.sig.returnType = ret → c.maxLocals = maxL → (∀ w ∈ ws, w.before av.toArray s = true) → s.vm.findClass own = some m.cls → meth.locks = false → K s → va_K D vwCl tys s → va_P D vwCl wi s.heap → va_D A wi → (∀ q, s.heap.size ≤ q → A q) → va_S A s.heap s.heap [] → lv_has ls maxL (lv_args 0 av) →
      W p l e (kRm fr lo) s m av.toArray below meth c s.heap [] 0 0 (kQI D below r wo A av.toArray s) (F0 m 0 ls [])) : kI l D K y ws fr lo av wi r wo := by
  intro sz
  refine Met.ofW (cc := cc) (maxL := maxL) (ret := ret) hy hw ?_
  intro p e s m args below meth c s₁ B hml hv
  obtain ⟨rfl, hsz, hP, hK, hD0⟩ := hv
  subst hsz
  have h1 : s.vm.findClass y.cls = some m.cls := findClass_of_methodNamed B.named
  rw [hyc] at h1
  rw [lg_entry_eq]
  exact body p e s m below meth c _ _ B.exec B.bytes B.returns hml (atoms_spec (ws := ws) B.pre) h1 B.notSynchronized hK (hKt s hK) hP hD0.self (fun q h => Or.inr h) va_S.rf (lv_entry av hav)
theorem kJ_of {r : Int64} {av : List Value} (hKt : ∀ U, K U → va_K D vwCl tys U) (hy : plainName y.cls = true) (hyc : y.cls = own) (hw : ws = Cond.code y cc maxL ret :: ws') (hav : (lg_sl av).length ≤ maxL)
    (body : ∀ (p : Program) (e : Env) (s : State) (m : MethodId) (below : List Frame) (meth : Method) (c : Code) (A : Nat → Prop) (ls : Array Slot), p.tables.exec = Jvm.exec → c.code = cc → meth.sig.returnType = ret → c.maxLocals = maxL → (∀ w ∈ ws, w.before av.toArray s = true) → s.vm.findClass own = some m.cls → meth.locks = false → K s → va_K D vwCl tys s → va_P D vwCl wi s.heap → va_D A wi → (∀ q, s.heap.size ≤ q → A q) → va_S A s.heap s.heap [] → lv_has ls maxL (lv_args 0 av) →
      W p l e (kRm fr lo) s m av.toArray below meth c s.heap [] 0 0 (kQJ D below r wo A av.toArray s) (F0 m 0 ls [])) : kJ l D K y ws fr lo av wi r wo := by
  intro sz
  refine Met.ofW (cc := cc) (maxL := maxL) (ret := ret) hy hw ?_
  intro p e s m args below meth c s₁ B hml hv
  obtain ⟨rfl, hsz, hP, hK, hD0⟩ := hv
  subst hsz
  have h1 : s.vm.findClass y.cls = some m.cls := findClass_of_methodNamed B.named
  rw [hyc] at h1
  rw [lg_entry_eq]
  exact body p e s m below meth c _ _ B.exec B.bytes B.returns hml (atoms_spec (ws := ws) B.pre) h1 B.notSynchronized hK (hKt s hK) hP hD0.self (fun q h => Or.inr h) va_S.rf (lv_entry av hav)
theorem kF_of {r : UInt64} {av : List Value} (hKt : ∀ U, K U → va_K D vwCl tys U) (hy : plainName y.cls = true) (hyc : y.cls = own) (hw : ws = Cond.code y cc maxL ret :: ws') (hav : (lg_sl av).length ≤ maxL)
    (body : ∀ (p : Program) (e : Env) (s : State) (m : MethodId) (below : List Frame) (meth : Method) (c : Code) (A : Nat → Prop) (ls : Array Slot), p.tables.exec = Jvm.exec → c.code = cc → meth.sig.returnType = ret → c.maxLocals = maxL → (∀ w ∈ ws, w.before av.toArray s = true) → s.vm.findClass own = some m.cls → meth.locks = false → K s → va_K D vwCl tys s → va_P D vwCl wi s.heap → va_D A wi → (∀ q, s.heap.size ≤ q → A q) → va_S A s.heap s.heap [] → lv_has ls maxL (lv_args 0 av) →
      W p l e (kRm fr lo) s m av.toArray below meth c s.heap [] 0 0 (kQF D below r wo A av.toArray s) (F0 m 0 ls [])) : kF l D K y ws fr lo av wi r wo := by
  intro sz
  refine Met.ofW (cc := cc) (maxL := maxL) (ret := ret) hy hw ?_
  intro p e s m args below meth c s₁ B hml hv
  obtain ⟨rfl, hsz, hP, hK, hD0⟩ := hv
  subst hsz
  have h1 : s.vm.findClass y.cls = some m.cls := findClass_of_methodNamed B.named
  rw [hyc] at h1
  rw [lg_entry_eq]
  exact body p e s m below meth c _ _ B.exec B.bytes B.returns hml (atoms_spec (ws := ws) B.pre) h1 B.notSynchronized hK (hKt s hK) hP hD0.self (fun q h => Or.inr h) va_S.rf (lv_entry av hav)
theorem kV_of {av : List Value} (hKt : ∀ U, K U → va_K D vwCl tys U) (hy : plainName y.cls = true) (hyc : y.cls = own) (hw : ws = Cond.code y cc maxL ret :: ws') (hav : (lg_sl av).length ≤ maxL)
    (body : ∀ (p : Program) (e : Env) (s : State) (m : MethodId) (below : List Frame) (meth : Method) (c : Code) (A : Nat → Prop) (ls : Array Slot), p.tables.exec = Jvm.exec → c.code = cc → meth.sig.returnType = ret → c.maxLocals = maxL → (∀ w ∈ ws, w.before av.toArray s = true) → s.vm.findClass own = some m.cls → meth.locks = false → K s → va_K D vwCl tys s → va_P D vwCl wi s.heap → va_D A wi → (∀ q, s.heap.size ≤ q → A q) → va_S A s.heap s.heap [] → lv_has ls maxL (lv_args 0 av) →
      W p l e (kRm fr lo) s m av.toArray below meth c s.heap [] 0 0 (kQV D below wo A av.toArray s) (F0 m 0 ls [])) : kV l D K y ws fr lo av wi wo := by
  intro sz
  refine Met.ofW (cc := cc) (maxL := maxL) (ret := ret) hy hw ?_
  intro p e s m args below meth c s₁ B hml hv
  obtain ⟨rfl, hsz, hP, hK, hD0⟩ := hv
  subst hsz
  have h1 : s.vm.findClass y.cls = some m.cls := findClass_of_methodNamed B.named
  rw [hyc] at h1
  rw [lg_entry_eq]
  exact body p e s m below meth c _ _ B.exec B.bytes B.returns hml (atoms_spec (ws := ws) B.pre) h1 B.notSynchronized hK (hKt s hK) hP hD0.self (fun q h => Or.inr h) va_S.rf (lv_entry av hav)
theorem kR_of {r : Option Nat} {av : List Value} (hKt : ∀ U, K U → va_K D vwCl tys U) (hy : plainName y.cls = true) (hyc : y.cls = own) (hw : ws = Cond.code y cc maxL ret :: ws') (hav : (lg_sl av).length ≤ maxL)
    (body : ∀ (p : Program) (e : Env) (s : State) (m : MethodId) (below : List Frame) (meth : Method) (c : Code) (A : Nat → Prop) (ls : Array Slot), p.tables.exec = Jvm.exec → c.code = cc → meth.sig.returnType = ret → c.maxLocals = maxL → (∀ w ∈ ws, w.before av.toArray s = true) → s.vm.findClass own = some m.cls → meth.locks = false → K s → va_K D vwCl tys s → va_P D vwCl wi s.heap → va_D A wi → (∀ q, s.heap.size ≤ q → A q) → va_S A s.heap s.heap [] → lv_has ls maxL (lv_args 0 av) →
      W p l e (kRm fr lo) s m av.toArray below meth c s.heap [] 0 0 (kQR D below r wo A av.toArray s) (F0 m 0 ls [])) : kR l D K y ws fr lo av wi r wo := by
  intro sz
  refine Met.ofW (cc := cc) (maxL := maxL) (ret := ret) hy hw ?_
  intro p e s m args below meth c s₁ B hml hv
  obtain ⟨rfl, hsz, hP, hK, hD0⟩ := hv
  subst hsz
  have h1 : s.vm.findClass y.cls = some m.cls := findClass_of_methodNamed B.named
  rw [hyc] at h1
  rw [lg_entry_eq]
  exact body p e s m below meth c _ _ B.exec B.bytes B.returns hml (atoms_spec (ws := ws) B.pre) h1 B.notSynchronized hK (hKt s hK) hP hD0.self (fun q h => Or.inr h) va_S.rf (lv_entry av hav)
end KC

/-! copies of tables and states; calls on two segments that lie apart -/
theorem kb_swP {D : va_G} {cl : List vw_C} {a b : va_W} {H : Heap} (h : va_P D cl (a ++ b) H) : va_P D cl (b ++ a) H := va_P.swap (a := []) (b := a) (c := b) h
theorem kb_swD {A : Nat → Prop} {a b : va_W} (h : va_D A (a ++ b)) : va_D A (b ++ a) := va_D.swap (a := []) (b := a) (c := b) h
theorem kb_swA (a b : va_W) (sz : Nat) : va_A (b ++ a) sz = va_A (a ++ b) sz := by
  have key : ∀ (a b : va_W) (q : Nat), va_A (a ++ b) sz q → va_A (b ++ a) sz q := by
    intro a b q h
    rcases h with ⟨k, e, h⟩ | h
    · have h2 : (q, e) ∈ b ++ a := (List.mem_append.mp (List.mem_of_getElem? h)).elim (fun h => List.mem_append.mpr (Or.inr h)) (fun h => List.mem_append.mpr (Or.inl h))
      obtain ⟨i, hi⟩ := List.getElem?_of_mem h2
      exact Or.inl ⟨i, e, hi⟩
    · exact Or.inr h
  funext q
  exact propext ⟨key b a q, key a b q⟩
theorem kV_swap {l : Launch} {D : va_G} {K : State → Prop} {y : MethodName} {ws : List Cond} {fr lo : Nat} {av : List Value} {a b a' b' : va_W} (h : kV l D K y ws fr lo av (a ++ b) (a' ++ b')) : kV l D K y ws fr lo av (b ++ a) (b' ++ a') := by
  intro sz
  have h0 := h sz
  rw [kb_swA a b sz]
  intro p e ha hc hk s m args below hf happ hP hK
  have hP' : va_Pc av (fun U => U.heap.size = sz ∧ va_P D vwCl (a ++ b) U.heap ∧ K U ∧ va_D (fun _ => True) (a ++ b)) args s := ⟨hP.1, hP.2.1, kb_swP hP.2.2.1, hP.2.2.2.1, kb_swD hP.2.2.2.2⟩
  obtain ⟨n, o, h1, h2, h3, ⟨⟨u, e1, e2, e3, e4⟩, e5⟩, L, h5, h6⟩ := h0 p e ha hc hk s m args below hf happ hP' hK
  exact ⟨n, o, h1, h2, h3, ⟨⟨u, e1, e2, kb_swP e3, kb_swD e4⟩, e5⟩, L, h5, h6⟩
theorem kb_2 {α : Type} (l y m x r : List α) : l ++ (y ++ (m ++ (x ++ r))) = ((l ++ y) ++ m) ++ (x ++ r) := by simp only [List.append_assoc]
theorem kb_3 {α : Type} (l y m x r : List α) : ((l ++ y) ++ (x ++ r)) ++ m = l ++ ((y ++ x) ++ (r ++ m)) := by simp only [List.append_assoc]
section KV2
variable {p : Program} {l : Launch} {e : Env} {R : Room} {s : State} {m : MethodId} {args : Array Value} {below : List Frame} {meth : Method} {c : Code} {H : Heap} {locs : List Loc} {cells slots : Nat} {Q : State → Prop}
variable {D : va_G} {K : State → Prop} {y : MethodName} {ws ws' : List Cond} {fr lo : Nat} {b : Nat} {As rest st0 : List Value} {s1 s2 t1 t2 w w' : va_W} {Ts : List Cond} {own C : String} {cc bytes : ByteArray} {maxL nL index n pc : Nat} {ret : Option FieldType} {ls : Array Slot} {A0 : Nat → Prop} {H0 : Heap} {fs : List Value} {ci q0 : Nat} {T : u_T} {N : Nat} {tys : List (ClassId × FieldType)}
theorem kcV2 (hKK : kK K) (hM : kV l D K y ws fr lo (.ref b :: As) (s1 ++ s2) (t1 ++ t2)) (S : CallFix p m c cc nL s args Ts own) (cw : CallW R s args own C index y bytes maxL ret ws (kRm fr lo) 0 0 n) (hKs : K s) (hK : va_K D vwCl tys s)
    (hP : va_P D vwCl w H) (hD : va_D A0 w) (hS : va_S A0 H0 H locs) (hA : ∀ q, H0.size ≤ q → A0 q) (wl wm wr : va_W) (hw : w = wl ++ (s1 ++ (wm ++ (s2 ++ wr)))) (hw' : wl ++ (t1 ++ (wm ++ (t2 ++ wr))) = w') (hci : vwCl[ci]? = some (C, T, N)) (he : (s1 ++ s2)[q0]? = some (b, .inr (ci, fs)))
    (hst : st0 = As.reverse ++ .ref b :: rest) (hn : As.length = n) (hsize : ls.size = nL) (hrm : (rest.map fun v => v.category).sum ≤ 8) (hdg : decode cc pc = .ok (.invokevirtual index, 3)) (hc : cells ≤ R.cells ∧ slots ≤ R.slots)
    (kk : ∀ (H1 : Heap) (locs1 : List Loc), va_P D vwCl w' H1 → va_D A0 w' → va_S A0 H0 H1 locs1 → W p l e R s m args below meth c H1 locs1 cells slots Q (F0 m (pc + 3) ls rest)) : W p l e R s m args below meth c H locs cells slots Q (F0 m pc ls st0) := by
  subst hw; subst hw'
  rw [kb_2] at hP hD
  have hP1 := va_P.swap hP
  have hD1 := va_D.swap hD
  rw [kb_3] at hP1 hD1
  refine kcV hKK hM S cw hKs hK hP1 hD1 hS hA wl (wr ++ wm) rfl rfl hci he hst hn hsize hrm hdg hc (fun H1 locs1 a1 a2 a3 => kk H1 locs1 ?_ ?_ a3)
  · rw [← kb_3] at a1
    rw [kb_2]
    exact va_P.swap a1
  · rw [← kb_3] at a2
    rw [kb_2]
    exact va_D.swap a2
end KV2
theorem kgen {α β : Type} {e : α} {f : α → β} {r : β} {P : α → Prop} (hR : bnd e f = r) (hP : P e) : ∃ x, f x = r ∧ P x := ⟨e, hR, hP⟩
theorem kgenF {α β : Type} {e : α} {f : α → β} {g : α → Prop} {r : β} {P : α → Prop} (hR : bnd e f = r) (hF : bnd e g) (hP : P e) : ∃ x, f x = r ∧ g x ∧ P x := ⟨e, hR, hF, hP⟩
theorem hdX2_copyFrom : yX2_copyFrom.cls = RX2 ∧ yX2_copyFrom.cls ≠ "java/lang/invoke/MethodHandle" ∧ yX2_copyFrom.cls ≠ "java/lang/invoke/VarHandle" ∧ (parseMethodDescriptor yX2_copyFrom.desc).map (fun d => d.parameters.length) = some 1 := by decide +kernel
def fx2_copyFrom (w rm : Int32) (n : Nat) (T2 : Tb) (T : Tb) : Tb := (T2.1, va_cpy T2.2 T.2 0 0 n)
set_option maxHeartbeats 4000000 in
set_option maxRecDepth 100000 in
theorem cx2_copyFrom {l : Launch} {D : va_G} {cI cB cS cJ : ClassId} {K : State → Prop} (E : kE D cI cB cS cJ K) (q qc qa qca : Nat) (w rm : Int32) (n : Nat) (hn : n < 2147483648) (T2 : Tb) (T : Tb) : kV l D K yX2_copyFrom wsX2_copyFrom 1 80 [.ref q, .ref qa] (tbW cI q qc w rm n T ++ tbW cI qa qca w rm n T2)  (tbW cI q qc w rm n (fx2_copyFrom w rm n T2 T) ++ tbW cI qa qca w rm n T2) := by
  refine kV_of (own := RX2) (cc := cX2_copyFrom) (maxL := 2) (tys := kty cI cB cS cJ) (fun U h => (E.2 U h).1) (by decide) rfl rfl (Nat.le_of_ble_eq_true rfl) ?_
  intro p e s m below meth c A ls hx hb hr hml hts hown hlk hKs hK hP hD hA hS hl
  have hl : lv_has ls 2 [(0, .ref q), (1, .ref qa)] := hl
  have hX : CallFix p m c cX2_copyFrom 2 s _ wsX2_copyFrom RX2 := ⟨hx, hb, hml, hown, hts⟩
  have hinX2 : ∀ w ∈ wsX20, w ∈ wsX2_copyFrom := fun w h => List.mem_cons_of_mem _ (List.mem_append_right _ h)
  have q1 := hts (.fieldLink RX2 27 "LabelStation$Table" "cells" "[I") (List.mem_of_getElem? (i := 1) rfl)
  have q2 := hts (.methodLink RX2 31 arraycopyName) (List.mem_of_getElem? (i := 2) rfl)
  have q3 := hts (.native arraycopyName) (List.mem_of_getElem? (i := 3) rfl)
  have q4 := hts (.static arraycopyName) (List.mem_of_getElem? (i := 4) rfl)
  have q5 := hts (.initialized "java/lang/System") (List.mem_of_getElem? (i := 5) rfl)
  have q6 := hts (.fieldLink RX2 9 "LabelStation$Table" "rows" "I") (List.mem_of_getElem? (i := 6) rfl)
  generalize hR : fx2_copyFrom w rm n T2 T = R
  rw [fx2_copyFrom] at hR
  refine lv_aload_n hx hb dX2_copyFrom_0 rfl (lv_at hl 0 rfl) ?_
  refine va_get (D := D) (ci := 2) (v := .ref qc) (C := RX2) (T := TX2) (N := 4) hx hb hts hinX2 hown hK hP 0 rfl rfl 2 (by decide) q1 (fun _ h9 => h9) rfl dX2_copyFrom_1 ?_
  refine va_alen (v := nI n) hx hb hK hP 1 0 rfl rfl rfl dX2_copyFrom_4 ?_
  refine lv_aload_n hx hb dX2_copyFrom_5 rfl (lv_at hl 1 rfl) ?_
  refine va_get (D := D) (ci := 2) (v := .ref qca) (C := RX2) (T := TX2) (N := 4) hx hb hts hinX2 hown hK hP 2 rfl rfl 2 (by decide) q1 (fun _ h9 => h9) rfl dX2_copyFrom_6 ?_
  refine va_alen (v := nI n) hx hb hK hP 3 0 rfl rfl rfl dX2_copyFrom_9 ?_
  refine lv_icmp_ne (tgt := 39) hx hb dX2_copyFrom_10 (by decide) (fun c => absurd rfl c) (fun _ => ?_)
  refine lv_aload_n hx hb dX2_copyFrom_13 rfl (lv_at hl 1 rfl) ?_
  refine va_get (D := D) (ci := 2) (v := .ref qca) (C := RX2) (T := TX2) (N := 4) hx hb hts hinX2 hown hK hP 2 rfl rfl 2 (by decide) q1 (fun _ h9 => h9) rfl dX2_copyFrom_14 ?_
  refine lv_iconst (v := 0) hx hb dX2_copyFrom_17 (by decide) ?_
  refine lv_aload_n hx hb dX2_copyFrom_18 rfl (lv_at hl 0 rfl) ?_
  refine va_get (D := D) (ci := 2) (v := .ref qc) (C := RX2) (T := TX2) (N := 4) hx hb hts hinX2 hown hK hP 0 rfl rfl 2 (by decide) q1 (fun _ h9 => h9) rfl dX2_copyFrom_19 ?_
  refine lv_iconst (v := 0) hx hb dX2_copyFrom_22 (by decide) ?_
  refine lv_aload_n hx hb dX2_copyFrom_23 rfl (lv_at hl 0 rfl) ?_
  refine va_get (D := D) (ci := 2) (v := .ref qc) (C := RX2) (T := TX2) (N := 4) hx hb hts hinX2 hown hK hP 0 rfl rfl 2 (by decide) q1 (fun _ h9 => h9) rfl dX2_copyFrom_24 ?_
  refine va_alen (v := nI n) hx hb hK hP 1 0 rfl rfl rfl dX2_copyFrom_27 ?_
  refine kcopy hx hb (hml.trans hl.1.symm) hown q2 q3 q4 q5 hK hP hD hS 3 1 rfl rfl rfl hn (Nat.le_of_ble_eq_true rfl) (Nat.le_of_ble_eq_true rfl) dX2_copyFrom_28 (fun H locs hP hD hS => ?_)
  have hP : va_P D vwCl (tbW cI q qc w rm n (T.1, va_cpy T2.2 T.2 0 0 n) ++ tbW cI qa qca w rm n T2) H := hP
  have hD : va_D A (tbW cI q qc w rm n (T.1, va_cpy T2.2 T.2 0 0 n) ++ tbW cI qa qca w rm n T2) := hD
  refine lv_aload_n hx hb dX2_copyFrom_31 rfl (lv_at hl 0 rfl) ?_
  refine lv_aload_n hx hb dX2_copyFrom_32 rfl (lv_at hl 1 rfl) ?_
  refine va_get (D := D) (ci := 2) (v := .int T2.1) (C := RX2) (T := TX2) (N := 4) hx hb hts hinX2 hown hK hP 2 rfl rfl 3 (by decide) q6 (fun _ h9 => h9) rfl dX2_copyFrom_33 ?_
  refine va_put (D := D) (ci := 2) (v := .int T2.1) (ty := .int) (C := RX2) (T := TX2) (N := 4) hx hb hts hinX2 tyX2 tyX2_ok nmX2 hown hK hP hD hS 0 rfl rfl 3 (by decide) q6 (fun _ h9 => h9) rfl (by decide +kernel) rfl rfl (Nat.le_of_ble_eq_true rfl) dX2_copyFrom_36 (fun H locs hP hD hS => ?_)
  have hP : va_P D vwCl (tbW cI q qc w rm n (T2.1, va_cpy T2.2 T.2 0 0 n) ++ tbW cI qa qca w rm n T2) H := hP
  have hD : va_D A (tbW cI q qc w rm n (T2.1, va_cpy T2.2 T.2 0 0 n) ++ tbW cI qa qca w rm n T2) := hD
  subst hR
  exact krV hx hb hr hlk hP hD hS dX2_copyFrom_39 rfl

theorem s2_tb0 (cI : ClassId) (ad ad2 : Nat → Nat) (S Zs : St) : stW cI ad S ++ stW cI ad2 Zs = (stW cI ad S).take 4 ++ (tbW cI (ad 4) (ad 5) 4 20 80 (stT S 0) ++ (((stW cI ad S).drop 6 ++ (stW cI ad2 Zs).take 4) ++ (tbW cI (ad2 4) (ad2 5) 4 20 80 (stT Zs 0) ++ (stW cI ad2 Zs).drop 6))) := rfl
theorem s2_tb0' (cI : ClassId) (ad ad2 : Nat → Nat) (S Zs : St) (T : Tb) : (stW cI ad S).take 4 ++ (tbW cI (ad 4) (ad 5) 4 20 80 T ++ (((stW cI ad S).drop 6 ++ (stW cI ad2 Zs).take 4) ++ (tbW cI (ad2 4) (ad2 5) 4 20 80 (stT Zs 0) ++ (stW cI ad2 Zs).drop 6))) = stW cI ad (stP S 0 T) ++ stW cI ad2 Zs := rfl
theorem s2_tb1 (cI : ClassId) (ad ad2 : Nat → Nat) (S Zs : St) : stW cI ad S ++ stW cI ad2 Zs = (stW cI ad S).take 6 ++ (tbW cI (ad 6) (ad 7) 6 35 210 (stT S 1) ++ (((stW cI ad S).drop 8 ++ (stW cI ad2 Zs).take 6) ++ (tbW cI (ad2 6) (ad2 7) 6 35 210 (stT Zs 1) ++ (stW cI ad2 Zs).drop 8))) := rfl
theorem s2_tb1' (cI : ClassId) (ad ad2 : Nat → Nat) (S Zs : St) (T : Tb) : (stW cI ad S).take 6 ++ (tbW cI (ad 6) (ad 7) 6 35 210 T ++ (((stW cI ad S).drop 8 ++ (stW cI ad2 Zs).take 6) ++ (tbW cI (ad2 6) (ad2 7) 6 35 210 (stT Zs 1) ++ (stW cI ad2 Zs).drop 8))) = stW cI ad (stP S 1 T) ++ stW cI ad2 Zs := rfl
theorem s2_tb2 (cI : ClassId) (ad ad2 : Nat → Nat) (S Zs : St) : stW cI ad S ++ stW cI ad2 Zs = (stW cI ad S).take 8 ++ (tbW cI (ad 8) (ad 9) 4 200 800 (stT S 2) ++ (((stW cI ad S).drop 10 ++ (stW cI ad2 Zs).take 8) ++ (tbW cI (ad2 8) (ad2 9) 4 200 800 (stT Zs 2) ++ (stW cI ad2 Zs).drop 10))) := rfl
theorem s2_tb2' (cI : ClassId) (ad ad2 : Nat → Nat) (S Zs : St) (T : Tb) : (stW cI ad S).take 8 ++ (tbW cI (ad 8) (ad 9) 4 200 800 T ++ (((stW cI ad S).drop 10 ++ (stW cI ad2 Zs).take 8) ++ (tbW cI (ad2 8) (ad2 9) 4 200 800 (stT Zs 2) ++ (stW cI ad2 Zs).drop 10))) = stW cI ad (stP S 2 T) ++ stW cI ad2 Zs := rfl
theorem s2_tb3 (cI : ClassId) (ad ad2 : Nat → Nat) (S Zs : St) : stW cI ad S ++ stW cI ad2 Zs = (stW cI ad S).take 10 ++ (tbW cI (ad 10) (ad 11) 1 50 50 (stT S 3) ++ (((stW cI ad S).drop 12 ++ (stW cI ad2 Zs).take 10) ++ (tbW cI (ad2 10) (ad2 11) 1 50 50 (stT Zs 3) ++ (stW cI ad2 Zs).drop 12))) := rfl
theorem s2_tb3' (cI : ClassId) (ad ad2 : Nat → Nat) (S Zs : St) (T : Tb) : (stW cI ad S).take 10 ++ (tbW cI (ad 10) (ad 11) 1 50 50 T ++ (((stW cI ad S).drop 12 ++ (stW cI ad2 Zs).take 10) ++ (tbW cI (ad2 10) (ad2 11) 1 50 50 (stT Zs 3) ++ (stW cI ad2 Zs).drop 12))) = stW cI ad (stP S 3 T) ++ stW cI ad2 Zs := rfl
theorem s2_tb4 (cI : ClassId) (ad ad2 : Nat → Nat) (S Zs : St) : stW cI ad S ++ stW cI ad2 Zs = (stW cI ad S).take 12 ++ (tbW cI (ad 12) (ad 13) 1 101 101 (stT S 4) ++ (((stW cI ad S).drop 14 ++ (stW cI ad2 Zs).take 12) ++ (tbW cI (ad2 12) (ad2 13) 1 101 101 (stT Zs 4) ++ (stW cI ad2 Zs).drop 14))) := rfl
theorem s2_tb4' (cI : ClassId) (ad ad2 : Nat → Nat) (S Zs : St) (T : Tb) : (stW cI ad S).take 12 ++ (tbW cI (ad 12) (ad 13) 1 101 101 T ++ (((stW cI ad S).drop 14 ++ (stW cI ad2 Zs).take 12) ++ (tbW cI (ad2 12) (ad2 13) 1 101 101 (stT Zs 4) ++ (stW cI ad2 Zs).drop 14))) = stW cI ad (stP S 4 T) ++ stW cI ad2 Zs := rfl
theorem hdX1_copyFrom : yX1_copyFrom.cls = RX1 ∧ yX1_copyFrom.cls ≠ "java/lang/invoke/MethodHandle" ∧ yX1_copyFrom.cls ≠ "java/lang/invoke/VarHandle" ∧ (parseMethodDescriptor yX1_copyFrom.desc).map (fun d => d.parameters.length) = some 1 := by decide +kernel
def fx1_copyFrom (Zs : St) (S : St) : St := (bnd (va_up S 0 (va_cpy (Zs 0) (S 0) 0 0 7)) (fun S2 => (bnd (va_up S2 1 (va_cpy (Zs 1) (S2 1) 0 0 5)) (fun S4 => (bnd (va_up S4 2 (va_cpy (Zs 2) (S4 2) 0 0 18)) (fun S6 => (bnd (stP S6 0 (fx2_copyFrom 4 20 80 (stT Zs 0) (stT S6 0))) (fun S8 => (bnd (stP S8 1 (fx2_copyFrom 6 35 210 (stT Zs 1) (stT S8 1))) (fun S10 => (bnd (stP S10 2 (fx2_copyFrom 4 200 800 (stT Zs 2) (stT S10 2))) (fun S12 => (bnd (stP S12 3 (fx2_copyFrom 1 50 50 (stT Zs 3) (stT S12 3))) (fun S14 => (bnd (stP S14 4 (fx2_copyFrom 1 101 101 (stT Zs 4) (stT S14 4))) (fun S16 => (bnd (sset S16 3 0 (Zs 3 0)) (fun S17 => (bnd (sset S17 3 1 (Zs 3 1)) (fun S19 => (bnd (sset S19 3 2 (Zs 3 2)) (fun S20 => (bnd (sset S20 3 3 (Zs 3 3)) (fun S22 => (bnd (sset S22 3 4 (Zs 3 4)) (fun S23 => (bnd (sset S23 3 5 (Zs 3 5)) (fun S24 => S24))))))))))))))))))))))))))))
def sx1_copyFrom (Zs : St) (S : St) : Prop := (bnd (va_up S 0 (va_cpy (Zs 0) (S 0) 0 0 7)) (fun S2 => (bnd (va_up S2 1 (va_cpy (Zs 1) (S2 1) 0 0 5)) (fun S4 => (bnd (va_up S4 2 (va_cpy (Zs 2) (S4 2) 0 0 18)) (fun S6 => (bnd (stP S6 0 (fx2_copyFrom 4 20 80 (stT Zs 0) (stT S6 0))) (fun S8 => (bnd (stP S8 1 (fx2_copyFrom 6 35 210 (stT Zs 1) (stT S8 1))) (fun S10 => (bnd (stP S10 2 (fx2_copyFrom 4 200 800 (stT Zs 2) (stT S10 2))) (fun S12 => (bnd (stP S12 3 (fx2_copyFrom 1 50 50 (stT Zs 3) (stT S12 3))) (fun S14 => (bnd (stP S14 4 (fx2_copyFrom 1 101 101 (stT Zs 4) (stT S14 4))) (fun S16 => (bnd (sset S16 3 0 (Zs 3 0)) (fun S17 => (kbo (Zs 3 1) ∧ (bnd (sset S17 3 1 (Zs 3 1)) (fun S19 => (bnd (sset S19 3 2 (Zs 3 2)) (fun S20 => kbo (Zs 3 3))))))))))))))))))))))))
set_option maxHeartbeats 4000000 in
set_option maxRecDepth 100000 in
theorem cx1_copyFrom {l : Launch} {D : va_G} {cI cB cS cJ : ClassId} {K : State → Prop} (E : kE D cI cB cS cJ K) (ad ad2 : Nat → Nat) (Zs : St) (S : St) (hF : sx1_copyFrom Zs S) : kV l D K yX1_copyFrom wsX1_copyFrom 2 101 [.ref (ad 0), .ref (ad2 0)] (stW cI ad S ++ stW cI ad2 Zs)  (stW cI ad (fx1_copyFrom Zs S) ++ stW cI ad2 Zs) := by
  refine kV_of (own := RX1) (cc := cX1_copyFrom) (maxL := 2) (tys := kty cI cB cS cJ) (fun U h => (E.2 U h).1) (by decide) rfl rfl (Nat.le_of_ble_eq_true rfl) ?_
  intro p e s m below meth c A ls hx hb hr hml hts hown hlk hKs hK hP hD hA hS hl
  have hl : lv_has ls 2 [(0, .ref (ad 0)), (1, .ref (ad2 0))] := hl
  have hX : CallFix p m c cX1_copyFrom 2 s _ wsX1_copyFrom RX1 := ⟨hx, hb, hml, hown, hts⟩
  have hinX1 : ∀ w ∈ wsX10, w ∈ wsX1_copyFrom := fun w h => List.mem_cons_of_mem _ (List.mem_append_left _ (List.mem_append_right _ h))
  have q1 := hts (.fieldLink RX1 9 "LabelStation$State" "settings" "[I") (List.mem_of_getElem? (i := 1) rfl)
  have q2 := hts (.methodLink RX1 68 Lib.Math.min.name) (List.mem_of_getElem? (i := 2) rfl)
  have q3 := hts (.static Lib.Math.min.name) (List.mem_of_getElem? (i := 3) rfl)
  have q4 := hts (.initialized "java/lang/Math") (List.mem_of_getElem? (i := 4) rfl)
  have q5 := hts (.code Lib.Math.min.name Lib.Math.min.code 2 (some .int)) (List.mem_of_getElem? (i := 5) rfl)
  have q6 := hts (.methodLink RX1 74 arraycopyName) (List.mem_of_getElem? (i := 6) rfl)
  have q7 := hts (.native arraycopyName) (List.mem_of_getElem? (i := 7) rfl)
  have q8 := hts (.static arraycopyName) (List.mem_of_getElem? (i := 8) rfl)
  have q9 := hts (.initialized "java/lang/System") (List.mem_of_getElem? (i := 9) rfl)
  have q10 := hts (.fieldLink RX1 15 "LabelStation$State" "places" "[I") (List.mem_of_getElem? (i := 10) rfl)
  have q11 := hts (.fieldLink RX1 18 "LabelStation$State" "counters" "[I") (List.mem_of_getElem? (i := 11) rfl)
  have q12 := hts (.fieldLink RX1 26 "LabelStation$State" "items" "LLabelStation$Table;") (List.mem_of_getElem? (i := 12) rfl)
  have q13 := hts (.fieldLink RX1 30 "LabelStation$State" "records" "LLabelStation$Table;") (List.mem_of_getElem? (i := 13) rfl)
  have q14 := hts (.fieldLink RX1 33 "LabelStation$State" "verdicts" "LLabelStation$Table;") (List.mem_of_getElem? (i := 14) rfl)
  have q15 := hts (.fieldLink RX1 36 "LabelStation$State" "binArrivals" "LLabelStation$Table;") (List.mem_of_getElem? (i := 15) rfl)
  have q16 := hts (.fieldLink RX1 39 "LabelStation$State" "expectations" "LLabelStation$Table;") (List.mem_of_getElem? (i := 16) rfl)
  have q17 := hts (.fieldLink RX1 42 "LabelStation$State" "tick" "I") (List.mem_of_getElem? (i := 17) rfl)
  have q18 := hts (.fieldLink RX1 46 "LabelStation$State" "running" "Z") (List.mem_of_getElem? (i := 18) rfl)
  have q19 := hts (.fieldLink RX1 50 "LabelStation$State" "alarm" "I") (List.mem_of_getElem? (i := 19) rfl)
  have q20 := hts (.fieldLink RX1 53 "LabelStation$State" "jammed" "Z") (List.mem_of_getElem? (i := 20) rfl)
  have q21 := hts (.fieldLink RX1 56 "LabelStation$State" "consecutiveRejects" "I") (List.mem_of_getElem? (i := 21) rfl)
  have q22 := hts (.fieldLink RX1 59 "LabelStation$State" "diverted" "I") (List.mem_of_getElem? (i := 22) rfl)
  generalize hR : fx1_copyFrom Zs S = R
  rw [fx1_copyFrom] at hR
  rw [sx1_copyFrom] at hF
  refine lv_aload_n hx hb dX1_copyFrom_0 rfl (lv_at hl 1 rfl) ?_
  refine va_get (D := D) (ci := 1) (v := .ref (ad2 1)) (C := RX1) (T := TX1) (N := 16) hx hb hts hinX1 hown hK hP 14 rfl rfl 0 (by decide) q1 (fun _ h9 => h9) rfl dX1_copyFrom_1 ?_
  refine lv_iconst (v := 0) hx hb dX1_copyFrom_4 (by decide) ?_
  refine lv_aload_n hx hb dX1_copyFrom_5 rfl (lv_at hl 0 rfl) ?_
  refine va_get (D := D) (ci := 1) (v := .ref (ad 1)) (C := RX1) (T := TX1) (N := 16) hx hb hts hinX1 hown hK hP 0 rfl rfl 0 (by decide) q1 (fun _ h9 => h9) rfl dX1_copyFrom_6 ?_
  refine lv_iconst (v := 0) hx hb dX1_copyFrom_9 (by decide) ?_
  refine lv_aload_n hx hb dX1_copyFrom_10 rfl (lv_at hl 1 rfl) ?_
  refine va_get (D := D) (ci := 1) (v := .ref (ad2 1)) (C := RX1) (T := TX1) (N := 16) hx hb hts hinX1 hown hK hP 14 rfl rfl 0 (by decide) q1 (fun _ h9 => h9) rfl dX1_copyFrom_11 ?_
  refine va_alen (v := nI 7) hx hb hK hP 15 0 rfl rfl rfl dX1_copyFrom_14 ?_
  refine lv_aload_n hx hb dX1_copyFrom_15 rfl (lv_at hl 0 rfl) ?_
  refine va_get (D := D) (ci := 1) (v := .ref (ad 1)) (C := RX1) (T := TX1) (N := 16) hx hb hts hinX1 hown hK hP 0 rfl rfl 0 (by decide) q1 (fun _ h9 => h9) rfl dX1_copyFrom_16 ?_
  refine va_alen (v := nI 7) hx hb hK hP 1 0 rfl rfl rfl dX1_copyFrom_19 ?_
  refine va_mmin hx hb (hml.trans hl.1.symm) hown q2 q3 q4 q5 (Nat.le_of_ble_eq_true rfl) (Nat.le_of_ble_eq_true rfl) (Nat.zero_le _) (Nat.zero_le _) dX1_copyFrom_20 ?_
  refine kw_top (v := .int (nI 7)) (by rw [ite_self]) ?_
  refine kcopy hx hb (hml.trans hl.1.symm) hown q6 q7 q8 q9 hK hP hD hS 15 1 rfl rfl rfl (by decide) (Nat.le_of_ble_eq_true rfl) (Nat.le_of_ble_eq_true rfl) dX1_copyFrom_23 (fun H locs hP hD hS => ?_)
  have hP : va_P D vwCl (stW cI ad (va_up S 0 (va_cpy (Zs 0) (S 0) 0 0 7)) ++ stW cI ad2 Zs) H := hP
  have hD : va_D A (stW cI ad (va_up S 0 (va_cpy (Zs 0) (S 0) 0 0 7)) ++ stW cI ad2 Zs) := hD
  obtain ⟨S2, hR, hF, hP, hD⟩ := kgenF (P := fun X9 => va_P D vwCl (stW cI ad X9 ++ stW cI ad2 Zs) H ∧ va_D A (stW cI ad X9 ++ stW cI ad2 Zs)) hR hF ⟨hP, hD⟩
  refine lv_aload_n hx hb dX1_copyFrom_26 rfl (lv_at hl 1 rfl) ?_
  refine va_get (D := D) (ci := 1) (v := .ref (ad2 2)) (C := RX1) (T := TX1) (N := 16) hx hb hts hinX1 hown hK hP 14 rfl rfl 1 (by decide) q10 (fun _ h9 => h9) rfl dX1_copyFrom_27 ?_
  refine lv_iconst (v := 0) hx hb dX1_copyFrom_30 (by decide) ?_
  refine lv_aload_n hx hb dX1_copyFrom_31 rfl (lv_at hl 0 rfl) ?_
  refine va_get (D := D) (ci := 1) (v := .ref (ad 2)) (C := RX1) (T := TX1) (N := 16) hx hb hts hinX1 hown hK hP 0 rfl rfl 1 (by decide) q10 (fun _ h9 => h9) rfl dX1_copyFrom_32 ?_
  refine lv_iconst (v := 0) hx hb dX1_copyFrom_35 (by decide) ?_
  refine lv_aload_n hx hb dX1_copyFrom_36 rfl (lv_at hl 1 rfl) ?_
  refine va_get (D := D) (ci := 1) (v := .ref (ad2 2)) (C := RX1) (T := TX1) (N := 16) hx hb hts hinX1 hown hK hP 14 rfl rfl 1 (by decide) q10 (fun _ h9 => h9) rfl dX1_copyFrom_37 ?_
  refine va_alen (v := nI 5) hx hb hK hP 16 0 rfl rfl rfl dX1_copyFrom_40 ?_
  refine lv_aload_n hx hb dX1_copyFrom_41 rfl (lv_at hl 0 rfl) ?_
  refine va_get (D := D) (ci := 1) (v := .ref (ad 2)) (C := RX1) (T := TX1) (N := 16) hx hb hts hinX1 hown hK hP 0 rfl rfl 1 (by decide) q10 (fun _ h9 => h9) rfl dX1_copyFrom_42 ?_
  refine va_alen (v := nI 5) hx hb hK hP 2 0 rfl rfl rfl dX1_copyFrom_45 ?_
  refine va_mmin hx hb (hml.trans hl.1.symm) hown q2 q3 q4 q5 (Nat.le_of_ble_eq_true rfl) (Nat.le_of_ble_eq_true rfl) (Nat.zero_le _) (Nat.zero_le _) dX1_copyFrom_46 ?_
  refine kw_top (v := .int (nI 5)) (by rw [ite_self]) ?_
  refine kcopy hx hb (hml.trans hl.1.symm) hown q6 q7 q8 q9 hK hP hD hS 16 2 rfl rfl rfl (by decide) (Nat.le_of_ble_eq_true rfl) (Nat.le_of_ble_eq_true rfl) dX1_copyFrom_49 (fun H locs hP hD hS => ?_)
  have hP : va_P D vwCl (stW cI ad (va_up S2 1 (va_cpy (Zs 1) (S2 1) 0 0 5)) ++ stW cI ad2 Zs) H := hP
  have hD : va_D A (stW cI ad (va_up S2 1 (va_cpy (Zs 1) (S2 1) 0 0 5)) ++ stW cI ad2 Zs) := hD
  obtain ⟨S4, hR, hF, hP, hD⟩ := kgenF (P := fun X9 => va_P D vwCl (stW cI ad X9 ++ stW cI ad2 Zs) H ∧ va_D A (stW cI ad X9 ++ stW cI ad2 Zs)) hR hF ⟨hP, hD⟩
  refine lv_aload_n hx hb dX1_copyFrom_52 rfl (lv_at hl 1 rfl) ?_
  refine va_get (D := D) (ci := 1) (v := .ref (ad2 3)) (C := RX1) (T := TX1) (N := 16) hx hb hts hinX1 hown hK hP 14 rfl rfl 2 (by decide) q11 (fun _ h9 => h9) rfl dX1_copyFrom_53 ?_
  refine lv_iconst (v := 0) hx hb dX1_copyFrom_56 (by decide) ?_
  refine lv_aload_n hx hb dX1_copyFrom_57 rfl (lv_at hl 0 rfl) ?_
  refine va_get (D := D) (ci := 1) (v := .ref (ad 3)) (C := RX1) (T := TX1) (N := 16) hx hb hts hinX1 hown hK hP 0 rfl rfl 2 (by decide) q11 (fun _ h9 => h9) rfl dX1_copyFrom_58 ?_
  refine lv_iconst (v := 0) hx hb dX1_copyFrom_61 (by decide) ?_
  refine lv_aload_n hx hb dX1_copyFrom_62 rfl (lv_at hl 1 rfl) ?_
  refine va_get (D := D) (ci := 1) (v := .ref (ad2 3)) (C := RX1) (T := TX1) (N := 16) hx hb hts hinX1 hown hK hP 14 rfl rfl 2 (by decide) q11 (fun _ h9 => h9) rfl dX1_copyFrom_63 ?_
  refine va_alen (v := nI 18) hx hb hK hP 17 0 rfl rfl rfl dX1_copyFrom_66 ?_
  refine lv_aload_n hx hb dX1_copyFrom_67 rfl (lv_at hl 0 rfl) ?_
  refine va_get (D := D) (ci := 1) (v := .ref (ad 3)) (C := RX1) (T := TX1) (N := 16) hx hb hts hinX1 hown hK hP 0 rfl rfl 2 (by decide) q11 (fun _ h9 => h9) rfl dX1_copyFrom_68 ?_
  refine va_alen (v := nI 18) hx hb hK hP 3 0 rfl rfl rfl dX1_copyFrom_71 ?_
  refine va_mmin hx hb (hml.trans hl.1.symm) hown q2 q3 q4 q5 (Nat.le_of_ble_eq_true rfl) (Nat.le_of_ble_eq_true rfl) (Nat.zero_le _) (Nat.zero_le _) dX1_copyFrom_72 ?_
  refine kw_top (v := .int (nI 18)) (by rw [ite_self]) ?_
  refine kcopy hx hb (hml.trans hl.1.symm) hown q6 q7 q8 q9 hK hP hD hS 17 3 rfl rfl rfl (by decide) (Nat.le_of_ble_eq_true rfl) (Nat.le_of_ble_eq_true rfl) dX1_copyFrom_75 (fun H locs hP hD hS => ?_)
  have hP : va_P D vwCl (stW cI ad (va_up S4 2 (va_cpy (Zs 2) (S4 2) 0 0 18)) ++ stW cI ad2 Zs) H := hP
  have hD : va_D A (stW cI ad (va_up S4 2 (va_cpy (Zs 2) (S4 2) 0 0 18)) ++ stW cI ad2 Zs) := hD
  obtain ⟨S6, hR, hF, hP, hD⟩ := kgenF (P := fun X9 => va_P D vwCl (stW cI ad X9 ++ stW cI ad2 Zs) H ∧ va_D A (stW cI ad X9 ++ stW cI ad2 Zs)) hR hF ⟨hP, hD⟩
  refine lv_aload_n hx hb dX1_copyFrom_78 rfl (lv_at hl 0 rfl) ?_
  refine va_get (D := D) (ci := 1) (v := .ref (ad 4)) (C := RX1) (T := TX1) (N := 16) hx hb hts hinX1 hown hK hP 0 rfl rfl 3 (by decide) q12 (fun _ h9 => h9) rfl dX1_copyFrom_79 ?_
  refine lv_aload_n hx hb dX1_copyFrom_82 rfl (lv_at hl 1 rfl) ?_
  refine va_get (D := D) (ci := 1) (v := .ref (ad2 4)) (C := RX1) (T := TX1) (N := 16) hx hb hts hinX1 hown hK hP 14 rfl rfl 3 (by decide) q12 (fun _ h9 => h9) rfl dX1_copyFrom_83 ?_
  refine kcV2 (ci := 2) (q0 := 0) (As := [.ref (ad2 4)]) (rest := []) E.1 (cx2_copyFrom E (ad 4) (ad 5) (ad2 4) (ad2 5) 4 20 80 (by decide) (stT Zs 0) (stT S6 0)) hX (cwV 1 hts gX1_copyFrom_X2_copyFrom rfl rfl rfl hdX2_copyFrom ⟨Nat.le_of_ble_eq_true rfl, Nat.le_of_ble_eq_true rfl⟩) hKs hK hP hD hS hA _ _ _ (s2_tb0 cI ad ad2 S6 Zs) (s2_tb0' cI ad ad2 S6 Zs _) rfl rfl rfl rfl hl.1 (Nat.le_of_ble_eq_true rfl) dX1_copyFrom_86 ⟨Nat.zero_le _, Nat.zero_le _⟩ (fun H locs hP hD hS => ?_)
  have hP : va_P D vwCl (stW cI ad (stP S6 0 (fx2_copyFrom 4 20 80 (stT Zs 0) (stT S6 0))) ++ stW cI ad2 Zs) H := hP
  have hD : va_D A (stW cI ad (stP S6 0 (fx2_copyFrom 4 20 80 (stT Zs 0) (stT S6 0))) ++ stW cI ad2 Zs) := hD
  obtain ⟨S8, hR, hF, hP, hD⟩ := kgenF (P := fun X9 => va_P D vwCl (stW cI ad X9 ++ stW cI ad2 Zs) H ∧ va_D A (stW cI ad X9 ++ stW cI ad2 Zs)) hR hF ⟨hP, hD⟩
  refine lv_aload_n hx hb dX1_copyFrom_89 rfl (lv_at hl 0 rfl) ?_
  refine va_get (D := D) (ci := 1) (v := .ref (ad 6)) (C := RX1) (T := TX1) (N := 16) hx hb hts hinX1 hown hK hP 0 rfl rfl 4 (by decide) q13 (fun _ h9 => h9) rfl dX1_copyFrom_90 ?_
  refine lv_aload_n hx hb dX1_copyFrom_93 rfl (lv_at hl 1 rfl) ?_
  refine va_get (D := D) (ci := 1) (v := .ref (ad2 6)) (C := RX1) (T := TX1) (N := 16) hx hb hts hinX1 hown hK hP 14 rfl rfl 4 (by decide) q13 (fun _ h9 => h9) rfl dX1_copyFrom_94 ?_
  refine kcV2 (ci := 2) (q0 := 0) (As := [.ref (ad2 6)]) (rest := []) E.1 (cx2_copyFrom E (ad 6) (ad 7) (ad2 6) (ad2 7) 6 35 210 (by decide) (stT Zs 1) (stT S8 1)) hX (cwV 1 hts gX1_copyFrom_X2_copyFrom rfl rfl rfl hdX2_copyFrom ⟨Nat.le_of_ble_eq_true rfl, Nat.le_of_ble_eq_true rfl⟩) hKs hK hP hD hS hA _ _ _ (s2_tb1 cI ad ad2 S8 Zs) (s2_tb1' cI ad ad2 S8 Zs _) rfl rfl rfl rfl hl.1 (Nat.le_of_ble_eq_true rfl) dX1_copyFrom_97 ⟨Nat.zero_le _, Nat.zero_le _⟩ (fun H locs hP hD hS => ?_)
  have hP : va_P D vwCl (stW cI ad (stP S8 1 (fx2_copyFrom 6 35 210 (stT Zs 1) (stT S8 1))) ++ stW cI ad2 Zs) H := hP
  have hD : va_D A (stW cI ad (stP S8 1 (fx2_copyFrom 6 35 210 (stT Zs 1) (stT S8 1))) ++ stW cI ad2 Zs) := hD
  obtain ⟨S10, hR, hF, hP, hD⟩ := kgenF (P := fun X9 => va_P D vwCl (stW cI ad X9 ++ stW cI ad2 Zs) H ∧ va_D A (stW cI ad X9 ++ stW cI ad2 Zs)) hR hF ⟨hP, hD⟩
  refine lv_aload_n hx hb dX1_copyFrom_100 rfl (lv_at hl 0 rfl) ?_
  refine va_get (D := D) (ci := 1) (v := .ref (ad 8)) (C := RX1) (T := TX1) (N := 16) hx hb hts hinX1 hown hK hP 0 rfl rfl 5 (by decide) q14 (fun _ h9 => h9) rfl dX1_copyFrom_101 ?_
  refine lv_aload_n hx hb dX1_copyFrom_104 rfl (lv_at hl 1 rfl) ?_
  refine va_get (D := D) (ci := 1) (v := .ref (ad2 8)) (C := RX1) (T := TX1) (N := 16) hx hb hts hinX1 hown hK hP 14 rfl rfl 5 (by decide) q14 (fun _ h9 => h9) rfl dX1_copyFrom_105 ?_
  refine kcV2 (ci := 2) (q0 := 0) (As := [.ref (ad2 8)]) (rest := []) E.1 (cx2_copyFrom E (ad 8) (ad 9) (ad2 8) (ad2 9) 4 200 800 (by decide) (stT Zs 2) (stT S10 2)) hX (cwV 1 hts gX1_copyFrom_X2_copyFrom rfl rfl rfl hdX2_copyFrom ⟨Nat.le_of_ble_eq_true rfl, Nat.le_of_ble_eq_true rfl⟩) hKs hK hP hD hS hA _ _ _ (s2_tb2 cI ad ad2 S10 Zs) (s2_tb2' cI ad ad2 S10 Zs _) rfl rfl rfl rfl hl.1 (Nat.le_of_ble_eq_true rfl) dX1_copyFrom_108 ⟨Nat.zero_le _, Nat.zero_le _⟩ (fun H locs hP hD hS => ?_)
  have hP : va_P D vwCl (stW cI ad (stP S10 2 (fx2_copyFrom 4 200 800 (stT Zs 2) (stT S10 2))) ++ stW cI ad2 Zs) H := hP
  have hD : va_D A (stW cI ad (stP S10 2 (fx2_copyFrom 4 200 800 (stT Zs 2) (stT S10 2))) ++ stW cI ad2 Zs) := hD
  obtain ⟨S12, hR, hF, hP, hD⟩ := kgenF (P := fun X9 => va_P D vwCl (stW cI ad X9 ++ stW cI ad2 Zs) H ∧ va_D A (stW cI ad X9 ++ stW cI ad2 Zs)) hR hF ⟨hP, hD⟩
  refine lv_aload_n hx hb dX1_copyFrom_111 rfl (lv_at hl 0 rfl) ?_
  refine va_get (D := D) (ci := 1) (v := .ref (ad 10)) (C := RX1) (T := TX1) (N := 16) hx hb hts hinX1 hown hK hP 0 rfl rfl 6 (by decide) q15 (fun _ h9 => h9) rfl dX1_copyFrom_112 ?_
  refine lv_aload_n hx hb dX1_copyFrom_115 rfl (lv_at hl 1 rfl) ?_
  refine va_get (D := D) (ci := 1) (v := .ref (ad2 10)) (C := RX1) (T := TX1) (N := 16) hx hb hts hinX1 hown hK hP 14 rfl rfl 6 (by decide) q15 (fun _ h9 => h9) rfl dX1_copyFrom_116 ?_
  refine kcV2 (ci := 2) (q0 := 0) (As := [.ref (ad2 10)]) (rest := []) E.1 (cx2_copyFrom E (ad 10) (ad 11) (ad2 10) (ad2 11) 1 50 50 (by decide) (stT Zs 3) (stT S12 3)) hX (cwV 1 hts gX1_copyFrom_X2_copyFrom rfl rfl rfl hdX2_copyFrom ⟨Nat.le_of_ble_eq_true rfl, Nat.le_of_ble_eq_true rfl⟩) hKs hK hP hD hS hA _ _ _ (s2_tb3 cI ad ad2 S12 Zs) (s2_tb3' cI ad ad2 S12 Zs _) rfl rfl rfl rfl hl.1 (Nat.le_of_ble_eq_true rfl) dX1_copyFrom_119 ⟨Nat.zero_le _, Nat.zero_le _⟩ (fun H locs hP hD hS => ?_)
  have hP : va_P D vwCl (stW cI ad (stP S12 3 (fx2_copyFrom 1 50 50 (stT Zs 3) (stT S12 3))) ++ stW cI ad2 Zs) H := hP
  have hD : va_D A (stW cI ad (stP S12 3 (fx2_copyFrom 1 50 50 (stT Zs 3) (stT S12 3))) ++ stW cI ad2 Zs) := hD
  obtain ⟨S14, hR, hF, hP, hD⟩ := kgenF (P := fun X9 => va_P D vwCl (stW cI ad X9 ++ stW cI ad2 Zs) H ∧ va_D A (stW cI ad X9 ++ stW cI ad2 Zs)) hR hF ⟨hP, hD⟩
  refine lv_aload_n hx hb dX1_copyFrom_122 rfl (lv_at hl 0 rfl) ?_
  refine va_get (D := D) (ci := 1) (v := .ref (ad 12)) (C := RX1) (T := TX1) (N := 16) hx hb hts hinX1 hown hK hP 0 rfl rfl 7 (by decide) q16 (fun _ h9 => h9) rfl dX1_copyFrom_123 ?_
  refine lv_aload_n hx hb dX1_copyFrom_126 rfl (lv_at hl 1 rfl) ?_
  refine va_get (D := D) (ci := 1) (v := .ref (ad2 12)) (C := RX1) (T := TX1) (N := 16) hx hb hts hinX1 hown hK hP 14 rfl rfl 7 (by decide) q16 (fun _ h9 => h9) rfl dX1_copyFrom_127 ?_
  refine kcV2 (ci := 2) (q0 := 0) (As := [.ref (ad2 12)]) (rest := []) E.1 (cx2_copyFrom E (ad 12) (ad 13) (ad2 12) (ad2 13) 1 101 101 (by decide) (stT Zs 4) (stT S14 4)) hX (cwV 1 hts gX1_copyFrom_X2_copyFrom rfl rfl rfl hdX2_copyFrom ⟨Nat.le_of_ble_eq_true rfl, Nat.le_of_ble_eq_true rfl⟩) hKs hK hP hD hS hA _ _ _ (s2_tb4 cI ad ad2 S14 Zs) (s2_tb4' cI ad ad2 S14 Zs _) rfl rfl rfl rfl hl.1 (Nat.le_of_ble_eq_true rfl) dX1_copyFrom_130 ⟨Nat.zero_le _, Nat.zero_le _⟩ (fun H locs hP hD hS => ?_)
  have hP : va_P D vwCl (stW cI ad (stP S14 4 (fx2_copyFrom 1 101 101 (stT Zs 4) (stT S14 4))) ++ stW cI ad2 Zs) H := hP
  have hD : va_D A (stW cI ad (stP S14 4 (fx2_copyFrom 1 101 101 (stT Zs 4) (stT S14 4))) ++ stW cI ad2 Zs) := hD
  obtain ⟨S16, hR, hF, hP, hD⟩ := kgenF (P := fun X9 => va_P D vwCl (stW cI ad X9 ++ stW cI ad2 Zs) H ∧ va_D A (stW cI ad X9 ++ stW cI ad2 Zs)) hR hF ⟨hP, hD⟩
  refine lv_aload_n hx hb dX1_copyFrom_133 rfl (lv_at hl 0 rfl) ?_
  refine lv_aload_n hx hb dX1_copyFrom_134 rfl (lv_at hl 1 rfl) ?_
  refine va_get (D := D) (ci := 1) (v := .int (Zs 3 0)) (C := RX1) (T := TX1) (N := 16) hx hb hts hinX1 hown hK hP 14 rfl rfl 8 (by decide) q17 (fun _ h9 => h9) rfl dX1_copyFrom_135 ?_
  refine va_put (D := D) (ci := 1) (v := .int (Zs 3 0)) (ty := .int) (C := RX1) (T := TX1) (N := 16) hx hb hts hinX1 tyX1 tyX1_ok nmX1 hown hK hP hD hS 0 rfl rfl 8 (by decide) q17 (fun _ h9 => h9) rfl (by decide +kernel) rfl rfl (Nat.le_of_ble_eq_true rfl) dX1_copyFrom_138 (fun H locs hP hD hS => ?_)
  have hP : va_P D vwCl (stW cI ad (sset S16 3 0 (Zs 3 0)) ++ stW cI ad2 Zs) H := hP
  have hD : va_D A (stW cI ad (sset S16 3 0 (Zs 3 0)) ++ stW cI ad2 Zs) := hD
  obtain ⟨S17, hR, hF, hP, hD⟩ := kgenF (P := fun X9 => va_P D vwCl (stW cI ad X9 ++ stW cI ad2 Zs) H ∧ va_D A (stW cI ad X9 ++ stW cI ad2 Zs)) hR hF ⟨hP, hD⟩
  refine lv_aload_n hx hb dX1_copyFrom_141 rfl (lv_at hl 0 rfl) ?_
  refine lv_aload_n hx hb dX1_copyFrom_142 rfl (lv_at hl 1 rfl) ?_
  refine va_get (D := D) (ci := 1) (v := .int (Zs 3 1)) (C := RX1) (T := TX1) (N := 16) hx hb hts hinX1 hown hK hP 14 rfl rfl 9 (by decide) q18 (fun _ h9 => h9) rfl dX1_copyFrom_143 ?_
  obtain ⟨hz18, hF⟩ := hF
  refine va_put (D := D) (ci := 1) (v := .int (Zs 3 1)) (ty := .boolean) (C := RX1) (T := TX1) (N := 16) hx hb hts hinX1 tyX1 tyX1_ok nmX1 hown hK hP hD hS 0 rfl rfl 9 (by decide) q18 (fun _ h9 => h9) rfl (by decide +kernel) (kbo_n hz18) (kbo_f hz18) (Nat.le_of_ble_eq_true rfl) dX1_copyFrom_146 (fun H locs hP hD hS => ?_)
  have hP : va_P D vwCl (stW cI ad (sset S17 3 1 (Zs 3 1)) ++ stW cI ad2 Zs) H := hP
  have hD : va_D A (stW cI ad (sset S17 3 1 (Zs 3 1)) ++ stW cI ad2 Zs) := hD
  obtain ⟨S19, hR, hF, hP, hD⟩ := kgenF (P := fun X9 => va_P D vwCl (stW cI ad X9 ++ stW cI ad2 Zs) H ∧ va_D A (stW cI ad X9 ++ stW cI ad2 Zs)) hR hF ⟨hP, hD⟩
  refine lv_aload_n hx hb dX1_copyFrom_149 rfl (lv_at hl 0 rfl) ?_
  refine lv_aload_n hx hb dX1_copyFrom_150 rfl (lv_at hl 1 rfl) ?_
  refine va_get (D := D) (ci := 1) (v := .int (Zs 3 2)) (C := RX1) (T := TX1) (N := 16) hx hb hts hinX1 hown hK hP 14 rfl rfl 10 (by decide) q19 (fun _ h9 => h9) rfl dX1_copyFrom_151 ?_
  refine va_put (D := D) (ci := 1) (v := .int (Zs 3 2)) (ty := .int) (C := RX1) (T := TX1) (N := 16) hx hb hts hinX1 tyX1 tyX1_ok nmX1 hown hK hP hD hS 0 rfl rfl 10 (by decide) q19 (fun _ h9 => h9) rfl (by decide +kernel) rfl rfl (Nat.le_of_ble_eq_true rfl) dX1_copyFrom_154 (fun H locs hP hD hS => ?_)
  have hP : va_P D vwCl (stW cI ad (sset S19 3 2 (Zs 3 2)) ++ stW cI ad2 Zs) H := hP
  have hD : va_D A (stW cI ad (sset S19 3 2 (Zs 3 2)) ++ stW cI ad2 Zs) := hD
  obtain ⟨S20, hR, hF, hP, hD⟩ := kgenF (P := fun X9 => va_P D vwCl (stW cI ad X9 ++ stW cI ad2 Zs) H ∧ va_D A (stW cI ad X9 ++ stW cI ad2 Zs)) hR hF ⟨hP, hD⟩
  refine lv_aload_n hx hb dX1_copyFrom_157 rfl (lv_at hl 0 rfl) ?_
  refine lv_aload_n hx hb dX1_copyFrom_158 rfl (lv_at hl 1 rfl) ?_
  refine va_get (D := D) (ci := 1) (v := .int (Zs 3 3)) (C := RX1) (T := TX1) (N := 16) hx hb hts hinX1 hown hK hP 14 rfl rfl 11 (by decide) q20 (fun _ h9 => h9) rfl dX1_copyFrom_159 ?_
  have hz21 := hF
  refine va_put (D := D) (ci := 1) (v := .int (Zs 3 3)) (ty := .boolean) (C := RX1) (T := TX1) (N := 16) hx hb hts hinX1 tyX1 tyX1_ok nmX1 hown hK hP hD hS 0 rfl rfl 11 (by decide) q20 (fun _ h9 => h9) rfl (by decide +kernel) (kbo_n hz21) (kbo_f hz21) (Nat.le_of_ble_eq_true rfl) dX1_copyFrom_162 (fun H locs hP hD hS => ?_)
  have hP : va_P D vwCl (stW cI ad (sset S20 3 3 (Zs 3 3)) ++ stW cI ad2 Zs) H := hP
  have hD : va_D A (stW cI ad (sset S20 3 3 (Zs 3 3)) ++ stW cI ad2 Zs) := hD
  obtain ⟨S22, hR, hP, hD⟩ := kgen (P := fun X9 => va_P D vwCl (stW cI ad X9 ++ stW cI ad2 Zs) H ∧ va_D A (stW cI ad X9 ++ stW cI ad2 Zs)) hR ⟨hP, hD⟩
  refine lv_aload_n hx hb dX1_copyFrom_165 rfl (lv_at hl 0 rfl) ?_
  refine lv_aload_n hx hb dX1_copyFrom_166 rfl (lv_at hl 1 rfl) ?_
  refine va_get (D := D) (ci := 1) (v := .int (Zs 3 4)) (C := RX1) (T := TX1) (N := 16) hx hb hts hinX1 hown hK hP 14 rfl rfl 12 (by decide) q21 (fun _ h9 => h9) rfl dX1_copyFrom_167 ?_
  refine va_put (D := D) (ci := 1) (v := .int (Zs 3 4)) (ty := .int) (C := RX1) (T := TX1) (N := 16) hx hb hts hinX1 tyX1 tyX1_ok nmX1 hown hK hP hD hS 0 rfl rfl 12 (by decide) q21 (fun _ h9 => h9) rfl (by decide +kernel) rfl rfl (Nat.le_of_ble_eq_true rfl) dX1_copyFrom_170 (fun H locs hP hD hS => ?_)
  have hP : va_P D vwCl (stW cI ad (sset S22 3 4 (Zs 3 4)) ++ stW cI ad2 Zs) H := hP
  have hD : va_D A (stW cI ad (sset S22 3 4 (Zs 3 4)) ++ stW cI ad2 Zs) := hD
  obtain ⟨S23, hR, hP, hD⟩ := kgen (P := fun X9 => va_P D vwCl (stW cI ad X9 ++ stW cI ad2 Zs) H ∧ va_D A (stW cI ad X9 ++ stW cI ad2 Zs)) hR ⟨hP, hD⟩
  refine lv_aload_n hx hb dX1_copyFrom_173 rfl (lv_at hl 0 rfl) ?_
  refine lv_aload_n hx hb dX1_copyFrom_174 rfl (lv_at hl 1 rfl) ?_
  refine va_get (D := D) (ci := 1) (v := .int (Zs 3 5)) (C := RX1) (T := TX1) (N := 16) hx hb hts hinX1 hown hK hP 14 rfl rfl 13 (by decide) q22 (fun _ h9 => h9) rfl dX1_copyFrom_175 ?_
  refine va_put (D := D) (ci := 1) (v := .int (Zs 3 5)) (ty := .int) (C := RX1) (T := TX1) (N := 16) hx hb hts hinX1 tyX1 tyX1_ok nmX1 hown hK hP hD hS 0 rfl rfl 13 (by decide) q22 (fun _ h9 => h9) rfl (by decide +kernel) rfl rfl (Nat.le_of_ble_eq_true rfl) dX1_copyFrom_178 (fun H locs hP hD hS => ?_)
  have hP : va_P D vwCl (stW cI ad (sset S23 3 5 (Zs 3 5)) ++ stW cI ad2 Zs) H := hP
  have hD : va_D A (stW cI ad (sset S23 3 5 (Zs 3 5)) ++ stW cI ad2 Zs) := hD
  obtain ⟨S24, hR, hP, hD⟩ := kgen (P := fun X9 => va_P D vwCl (stW cI ad X9 ++ stW cI ad2 Zs) H ∧ va_D A (stW cI ad X9 ++ stW cI ad2 Zs)) hR ⟨hP, hD⟩
  subst hR
  exact krV hx hb hr hlk hP hD hS dX1_copyFrom_181 rfl

/-! the law's wrappers -/
def outW (cJ : ClassId) (ao : Nat) (o : Nat → Int64) : va_W := [(ao, .inl (cJ, 1, .inr (.inl o)))]
/-- which thrown class a catch takes -/
def kCt (U : State) : Prop := (va_Nw (.castable (kXn 1) (kXn 1)) U ∧ va_Nw (.castable (kXn 2) (kXn 2)) U ∧ va_Nw (.castable (kXn 3) (kXn 3)) U ∧ va_Nw (.castable (kXn 4) (kXn 4)) U) ∧ va_Nc (kXn 2) (kXn 1) U ∧ va_Nc (kXn 1) (kXn 3) U
def kEW (D : va_G) (cI cB cS cJ : ClassId) (K : State → Prop) : Prop := kEX D cI cB cS cJ K ∧ ∀ U, K U → va_AO RX1 U ∧ kCt U
def kY (l : Launch) (D : va_G) (K : State → Prop) (y : MethodName) (ws : List Cond) (fr lo : Nat) (av : List Value) (wi : va_W) (r : Int32) (wo : va_W) : Prop :=
  ∀ sz : Nat, Met l y ws (kRmX fr lo) (va_Pc av (fun U => U.heap.size = sz ∧ va_P D vwCl wi U.heap ∧ K U ∧ va_D (fun _ => True) wi ∧ kSt (va_A wi sz) U U.heap)) (va_Qi (fun (r' : Int32) (_ : Unit) => r' = r) (fun _ t => va_P D vwCl wo t.heap ∧ va_D (va_A wi sz) wo) (va_A wi sz)) 1 6 (va_A wi sz)
abbrev kQY (D : va_G) (below : List Frame) (r : Int32) (wo : va_W) (A : Nat → Prop) (a : Array Value) (s : State) : State → Prop := MQ below (va_Qi (fun (r' : Int32) (_ : Unit) => r' = r) (fun _ t => va_P D vwCl wo t.heap ∧ va_D A wo) A) a s 1 6 A
section KYS
variable {p : Program} {l : Launch} {e : Env} {R : Room} {s : State} {m : MethodId} {args : Array Value} {below : List Frame} {meth : Method} {c : Code} {H : Heap} {locs : List Loc} {cells slots : Nat} {Q : State → Prop}
variable {D : va_G} {K : State → Prop} {y : MethodName} {ws ws' : List Cond} {fr lo : Nat} {b : Nat} {As rest st0 : List Value} {wi wo w w' : va_W} {Ts : List Cond} {own C : String} {cc bytes : ByteArray} {maxL nL index n pc : Nat} {ret : Option FieldType} {ls : Array Slot} {A A0 : Nat → Prop} {H0 : Heap} {tys : List (ClassId × FieldType)} {ec r : Int32} {hh : List (Nat × Nat × Nat × Nat)} {ci q0 : Nat} {T : u_T} {N : Nat} {fs : List Value}
theorem kY_of {av : List Value} (hKt : ∀ U, K U → va_K D vwCl tys U) (hy : plainName y.cls = true) (hyc : y.cls = own) (hw : ws = Cond.codeWith y cc maxL ret hh :: ws') (hav : (lg_sl av).length ≤ maxL)
    (body : ∀ (p : Program) (e : Env) (s : State) (m : MethodId) (below : List Frame) (meth : Method) (c : Code) (A : Nat → Prop) (ls : Array Slot), p.tables.exec = Jvm.exec → c.code = cc → meth.sig.returnType = ret → c.maxLocals = maxL → (∀ w ∈ ws, w.before av.toArray s = true) → s.vm.findClass own = some m.cls → meth.locks = false → K s → va_K D vwCl tys s → va_P D vwCl wi s.heap → va_D A wi → (∀ q, s.heap.size ≤ q → A q) → va_S A s.heap s.heap [] → lv_has ls maxL (lv_args 0 av) → kSt A s s.heap → c.exceptionTable.toList = tableOf hh →
      W p l e (kRmX fr lo) s m av.toArray below meth c s.heap [] 0 0 (kQY D below r wo A av.toArray s) (F0 m 0 ls [])) : kY l D K y ws fr lo av wi r wo := by
  intro sz
  refine va_MetW (cc := cc) (maxL := maxL) (ret := ret) (hh := hh) hy hw ?_
  intro p e s m args below meth c s₁ B hml hv
  obtain ⟨rfl, hsz, hP, hK, hD0, hst⟩ := hv
  subst hsz
  have h1 : s.vm.findClass y.cls = some m.cls := findClass_of_methodNamed B.named
  rw [hyc] at h1
  have htab := vx_table (x := y) B (atoms_spec (ws := ws) B.pre _ (by rw [hw]; exact List.mem_cons_self))
  rw [lg_entry_eq]
  exact body p e s m below meth c _ _ B.exec B.bytes B.returns hml (atoms_spec (ws := ws) B.pre) h1 B.notSynchronized hK (hKt s hK) hP hD0.self (fun q h => Or.inr h) va_S.rf (lv_entry av hav) hst htab
theorem krY {v : Int32} (hx : p.tables.exec = Jvm.exec) (hb : c.code = cc) (hr : meth.sig.returnType = some .int) (hlocks : meth.locks = false) (hP : va_P D vwCl w H) (hD : va_D A w) (hS : va_S A s.heap H locs) (hdg : decode cc pc = .ok (.ireturn, 1)) (hc : cells ≤ 1) (hs : slots ≤ 6) (hv : v = r) (hw : w = wo) : W p l e R s m args below meth c H locs cells slots (kQY D below r wo A args s) (F0 m pc ls [.int v]) := by
  subst hv; subst hw
  refine W.widen (k := 1) (n := 6) hc hs ?_
  exact W.iret hx hb hr (fun t ht hW => ⟨⟨v, (), rfl, rfl, by rw [ht]; exact hP, hD⟩, hS.F ht⟩) hS.2.2 hdg
theorem kb_preVX (hKK : kK K) (hKs : K s) (hK : va_K D vwCl tys s) (hP : va_P D vwCl wi H) (hD : va_D A0 wi) (hSt : kSt (va_A wi H.size) s H) (hci : vwCl[ci]? = some (C, T, N)) (he : wi[q0]? = some (b, .inr (ci, fs))) : PreV s H C b (va_Pc (.ref b :: As) (fun U => U.heap.size = H.size ∧ va_P D vwCl wi U.heap ∧ K U ∧ va_D (fun _ => True) wi ∧ kSt (va_A wi H.size) U U.heap)) As :=
  ⟨kb_preX hKK, va_recv hK hP hci he, fun U hU hW => ⟨rfl, by rw [hU], by rw [hU]; exact hP, hKK s U hW hKs, hD.weaken (fun _ _ _ _ => trivial), by rw [hU]; exact hSt.moved hW.alike⟩⟩
theorem kSt_at (hSt : kSt A0 s H0) (hS : va_S A0 H0 H locs) (hF : ∀ q, va_A wi H.size q → A0 q) : kSt (va_A wi H.size) s H := (hSt.kept hS.2.1).narrow hF
/-- a call of a method that may throw -/
theorem kcX (hKK : kK K) (hM : kX l D K y ws fr lo (.ref b :: As) wi ec r wo) (S : CallFix p m c cc nL s args Ts own) (cw : CallW R s args own C index y bytes maxL ret ws (kRmX fr lo) 1 6 n) (hKs : K s) (hK : va_K D vwCl tys s)
    (hP : va_P D vwCl w H) (hD : va_D A0 w) (hS : va_S A0 H0 H locs) (hA : ∀ q, H0.size ≤ q → A0 q) (hSt : kSt A0 s H0) (wl wr : va_W) (hw : w = wl ++ (wi ++ wr)) (hw' : wl ++ (wo ++ wr) = w') (hci : vwCl[ci]? = some (C, T, N)) (he : wi[q0]? = some (b, .inr (ci, fs)))
    (hst : st0 = As.reverse ++ .ref b :: rest) (hn : As.length = n) (hsize : ls.size = nL) (hrm : (rest.map fun v => v.category).sum ≤ 8) (hdg : decode cc pc = .ok (.invokevirtual index, 3)) (hc : cells + 1 ≤ R.cells ∧ slots + 6 ≤ R.slots)
    (kx : ec ≠ 0 → ∀ (ce : Cell) (q9 : Addr) (H1 : Heap) (locs1 : List Loc), va_P D vwCl w H1 → va_D A0 w → va_S A0 H0 H1 locs1 → H1[q9]? = some ce → ce.vm = .none → s.vm.findClass (kXn ec) = some ce.cls → vx_W p l e R s m args below meth c H1 locs1 (cells + 1) (slots + 6) Q (F0 m pc ls rest) q9)
    (kk : ec = 0 → ∀ (H1 : Heap) (locs1 : List Loc), va_P D vwCl w' H1 → va_D A0 w' → va_S A0 H0 H1 locs1 → W p l e R s m args below meth c H1 locs1 (cells + 1) (slots + 6) Q (F0 m (pc + 3) ls (.int r :: rest))) : W p l e R s m args below meth c H locs cells slots Q (F0 m pc ls st0) := by
  subst hw; subst hw'; subst hst
  have hF := kb_F hD hS hA
  refine vx_calli (vx_runV (As := As) (rest := rest) S (hM H.size) cw (kb_preVX hKK hKs hK (kb_P hP) (kb_D hD) (kSt_at hSt hS hF) hci he) rfl hn hsize rfl (lv_room hrm) hdg hc) hS (fun q _ h => hF q h) hF (fun q _ h => hF q h) (fun E ce q9 u t H1 locs1 ht hvm hp hB hz1 hk1 hS1 hce hcv hcl => ?_) (fun r1 u t H1 locs1 ht hvm hr1 hB hz1 hk1 hS1 => ?_)
  · obtain ⟨he0, hE, hP1, hD1⟩ := hB
    rw [ht] at hP1
    obtain ⟨a1, a2⟩ := kb_join hP hD hk1 hF hP1 hD1
    exact kx he0 ce q9 H1 locs1 a1 a2 hS1 hce hcv (by rw [← hE]; exact hcl)
  · obtain ⟨hP1, hD1⟩ := hB
    rw [ht] at hP1
    obtain ⟨a1, a2⟩ := kb_join hP hD hk1 hF hP1 hD1
    rw [show r1 = r from hr1.2]
    exact kk hr1.1 H1 locs1 a1 a2 hS1
/-- a call of a wrapper -/
theorem kcsY (hKK : kK K) (hM : kY l D K y ws fr lo As wi r wo) (S : CallFix p m c cc nL s args Ts own) (cw : vx_CSW R s args own index y bytes maxL ret hh ws (kRmX fr lo) 1 6 n) (hKs : K s)
    (hP : va_P D vwCl w H) (hD : va_D A0 w) (hS : va_S A0 H0 H locs) (hA : ∀ q, H0.size ≤ q → A0 q) (hSt : kSt A0 s H0) (wl wr : va_W) (hw : w = wl ++ (wi ++ wr)) (hw' : wl ++ (wo ++ wr) = w')
    (hst : st0 = As.reverse ++ rest) (hn : As.length = n) (hsize : ls.size = nL) (hrm : (rest.map fun v => v.category).sum ≤ 8) (hdg : decode cc pc = .ok (.invokestatic index, 3)) (hc : cells + 1 ≤ R.cells ∧ slots + 6 ≤ R.slots)
    (kk : ∀ (H1 : Heap) (locs1 : List Loc), va_P D vwCl w' H1 → va_D A0 w' → va_S A0 H0 H1 locs1 → W p l e R s m args below meth c H1 locs1 (cells + 1) (slots + 6) Q (F0 m (pc + 3) ls (.int r :: rest))) : W p l e R s m args below meth c H locs cells slots Q (F0 m pc ls st0) := by
  subst hw; subst hw'; subst hst
  have hF := kb_F hD hS hA
  refine va_calli (vx_runSW (As := As) (rest := rest) S (hM H.size) cw ⟨kb_preX hKK, fun U hU hW => ⟨rfl, by rw [hU], by rw [hU]; exact kb_P hP, hKK s U hW hKs, (kb_D hD).weaken (fun _ _ _ _ => trivial), by rw [hU]; exact (kSt_at hSt hS hF).moved hW.alike⟩⟩ rfl hn hsize rfl (lv_room hrm) hdg hc) hS (fun q _ h => hF q h) hF (fun r1 u t H1 locs1 ht hvm hr1 hB hz1 hk1 hS1 => ?_)
  obtain ⟨hP1, hD1⟩ := hB
  rw [ht] at hP1
  obtain ⟨a1, a2⟩ := kb_join hP hD hk1 hF hP1 hD1
  rw [show r1 = r from hr1]
  exact kk H1 locs1 a1 a2 hS1
end KYS

theorem hdL_setPlaces : yL_setPlaces.cls ≠ "java/lang/invoke/MethodHandle" ∧ yL_setPlaces.cls ≠ "java/lang/invoke/VarHandle" ∧ (parseMethodDescriptor yL_setPlaces.desc).map (fun d => d.parameters.length) = some 7 := by decide +kernel
set_option maxHeartbeats 4000000 in
set_option maxRecDepth 100000 in
theorem cw_setPlaces {l : Launch} {D : va_G} {cI cB cS cJ : ClassId} {K : State → Prop} (EW : kEW D cI cB cS cJ K) (aL : Nat → Nat → Nat) (L L2 : Nat → St) (ao : Nat) (o : Nat → Int64) (x1 x2 x3 x4 x5 : Int32) {ec r : Int32} (hM : kX l D K yX3_setPlaces wsX3_setPlaces 6 165 [.ref (aL 7 0), .int x1, .int x2, .int x3, .int x4, .int x5] (lsW cI cB cS aL L) ec r (lsW cI cB cS aL L2)) (hE : ec = 0 ∨ ec = 1 ∨ ec = 2) (hT : ec ≠ 0 → L2 = L) : kY l D K yL_setPlaces wsL_setPlaces 7 192 [.ref (aL 7 0), .int x1, .int x2, .int x3, .int x4, .int x5, .ref ao] (outW cJ ao o ++ (lsW cI cB cS aL L ++ [])) (kc 1 2 ec) (outW cJ ao (if ec = 0 then va_up o 0 r.toInt64 else o) ++ (lsW cI cB cS aL L2 ++ [])) := by
  have E := EW.1.1
  refine kY_of (own := RL) (cc := cL_setPlaces) (maxL := 8) (tys := kty cI cB cS cJ) (hh := [(0, 16, 19, 13), (0, 16, 23, 15)]) (fun U h => (E.2 U h).1) (by decide) rfl rfl (Nat.le_of_ble_eq_true rfl) ?_
  intro p e s m below meth c A ls hx hb hr hml hts hown hlk hKs hK hP hD hA hS hl hSt htab
  have hl : lv_has ls 8 [(0, .ref (aL 7 0)), (1, .int x1), (2, .int x2), (3, .int x3), (4, .int x4), (5, .int x5), (6, .ref ao)] := hl
  have hX : CallFix p m c cL_setPlaces 8 s _ wsL_setPlaces RL := ⟨hx, hb, hml, hown, hts⟩
  obtain ⟨-, ⟨k11, k22, k33, k44⟩, k21, k13⟩ := EW.2 s hKs
  have qc0 := hts (.classLink RL 13 "java/lang/IllegalArgumentException") (List.mem_of_getElem? (i := 1) rfl)
  have qc1 := hts (.classLink RL 15 "java/lang/IllegalStateException") (List.mem_of_getElem? (i := 2) rfl)
  refine lv_aload hx hb dL_setPlaces_0 (lv_at hl 6 rfl) ?_
  refine lv_iconst (v := 0) hx hb dL_setPlaces_2 (by decide) ?_
  refine lv_aload_n hx hb dL_setPlaces_3 rfl (lv_at hl 0 rfl) ?_
  refine lv_iload_n hx hb dL_setPlaces_4 rfl (lv_at hl 1 rfl) ?_
  refine lv_iload_n hx hb dL_setPlaces_5 rfl (lv_at hl 2 rfl) ?_
  refine lv_iload_n hx hb dL_setPlaces_6 rfl (lv_at hl 3 rfl) ?_
  refine lv_iload hx hb dL_setPlaces_7 (lv_at hl 4 rfl) ?_
  refine lv_iload hx hb dL_setPlaces_9 (lv_at hl 5 rfl) ?_
  refine kcX (ci := 3) (q0 := 0) (As := [.int x1, .int x2, .int x3, .int x4, .int x5]) (rest := [.int 0, .ref ao]) E.1 hM hX (cwV 5 hts gL_setPlaces_X3_setPlaces rfl rfl rfl hdX3_setPlaces ⟨Nat.le_of_ble_eq_true rfl, Nat.le_of_ble_eq_true rfl⟩) hKs hK hP hD hS hA hSt (outW cJ ao o) [] rfl rfl rfl rfl rfl rfl hl.1 (Nat.le_of_ble_eq_true rfl) dL_setPlaces_11 ⟨Nat.le_of_ble_eq_true rfl, Nat.le_of_ble_eq_true rfl⟩ (fun he ce q9 H locs hP hD hS hce hcv hcl => ?_) (fun he H locs hP hD hS => ?_)
  · have hL : L2 = L := hT he
    subst hL
    rcases hE with rfl | rfl | rfl
    · exact absurd rfl he
    · refine vx_catch (name := kXn 1) hown [] ⟨0, 16, 19, 13⟩ [⟨0, 16, 23, 15⟩] htab (fun z hz => by cases hz) (by decide) (by decide) qc0 (va_Nw.use rfl k11) hce hcv hcl ?_
      refine lv_astore (lv' := (7, .ref q9) :: [(0, .ref (aL 7 0)), (1, .int x1), (2, .int x2), (3, .int x3), (4, .int x4), (5, .int x5), (6, .ref ao)]) hx hb dL_setPlaces_19 hl (by decide) rfl (fun ls hl => ?_)
      refine lv_iconst (v := 1) hx hb dL_setPlaces_21 (by decide) ?_
      exact krY hx hb hr hlk hP hD hS dL_setPlaces_22 (Nat.le_of_ble_eq_true rfl) (Nat.le_of_ble_eq_true rfl) (by decide) rfl
    · refine vx_catch (name := kXn 2) hown [⟨0, 16, 19, 13⟩] ⟨0, 16, 23, 15⟩ [] htab (fun z hz => Or.inr (by rw [List.mem_singleton.mp hz]; exact ⟨(by decide), _, qc0, k21⟩)) (by decide) (by decide) qc1 (va_Nw.use rfl k22) hce hcv hcl ?_
      refine lv_astore (lv' := (7, .ref q9) :: [(0, .ref (aL 7 0)), (1, .int x1), (2, .int x2), (3, .int x3), (4, .int x4), (5, .int x5), (6, .ref ao)]) hx hb dL_setPlaces_23 hl (by decide) rfl (fun ls hl => ?_)
      refine lv_iconst (v := 2) hx hb dL_setPlaces_25 (by decide) ?_
      exact krY hx hb hr hlk hP hD hS dL_setPlaces_26 (Nat.le_of_ble_eq_true rfl) (Nat.le_of_ble_eq_true rfl) (by decide) rfl
  · subst he
    refine lv_i2l (v := r.toInt64) hx hb dL_setPlaces_14 rfl ?_
    refine va_last hx hb hK hP hD hS 0 3 rfl rfl (by unfold vp_in; decide) dL_setPlaces_15 (fun H locs hP hD hS => ?_)
    have hP : va_P D vwCl (outW cJ ao (va_up o 0 r.toInt64) ++ (lsW cI cB cS aL L2 ++ [])) H := hP
    have hD : va_D A (outW cJ ao (va_up o 0 r.toInt64) ++ (lsW cI cB cS aL L2 ++ [])) := hD
    refine lv_goto (tgt := 27) hx hb dL_setPlaces_16 (by decide) ?_
    refine lv_iconst (v := 0) hx hb dL_setPlaces_27 (by decide) ?_
    exact krY hx hb hr hlk hP hD hS dL_setPlaces_28 (Nat.le_of_ble_eq_true rfl) (Nat.le_of_ble_eq_true rfl) (by decide) rfl

theorem hdL_set : yL_set.cls ≠ "java/lang/invoke/MethodHandle" ∧ yL_set.cls ≠ "java/lang/invoke/VarHandle" ∧ (parseMethodDescriptor yL_set.desc).map (fun d => d.parameters.length) = some 4 := by decide +kernel
set_option maxHeartbeats 4000000 in
set_option maxRecDepth 100000 in
theorem cw_set {l : Launch} {D : va_G} {cI cB cS cJ : ClassId} {K : State → Prop} (EW : kEW D cI cB cS cJ K) (aL : Nat → Nat → Nat) (L L2 : Nat → St) (ao : Nat) (o : Nat → Int64) (x1 x2 : Int32) {ec r : Int32} (hM : kX l D K yX3_set wsX3_set 6 165 [.ref (aL 7 0), .int x1, .int x2] (lsW cI cB cS aL L) ec r (lsW cI cB cS aL L2)) (hE : ec = 0 ∨ ec = 1 ∨ ec = 1) (hT : ec ≠ 0 → L2 = L) : kY l D K yL_set wsL_set 7 188 [.ref (aL 7 0), .int x1, .int x2, .ref ao] (outW cJ ao o ++ (lsW cI cB cS aL L ++ [])) (kc 1 1 ec) (outW cJ ao (if ec = 0 then va_up o 0 r.toInt64 else o) ++ (lsW cI cB cS aL L2 ++ [])) := by
  have E := EW.1.1
  refine kY_of (own := RL) (cc := cL_set) (maxL := 5) (tys := kty cI cB cS cJ) (hh := [(0, 10, 13, 13)]) (fun U h => (E.2 U h).1) (by decide) rfl rfl (Nat.le_of_ble_eq_true rfl) ?_
  intro p e s m below meth c A ls hx hb hr hml hts hown hlk hKs hK hP hD hA hS hl hSt htab
  have hl : lv_has ls 5 [(0, .ref (aL 7 0)), (1, .int x1), (2, .int x2), (3, .ref ao)] := hl
  have hX : CallFix p m c cL_set 5 s _ wsL_set RL := ⟨hx, hb, hml, hown, hts⟩
  obtain ⟨-, ⟨k11, k22, k33, k44⟩, k21, k13⟩ := EW.2 s hKs
  have qc0 := hts (.classLink RL 13 "java/lang/IllegalArgumentException") (List.mem_of_getElem? (i := 1) rfl)
  refine lv_aload_n hx hb dL_set_0 rfl (lv_at hl 3 rfl) ?_
  refine lv_iconst (v := 0) hx hb dL_set_1 (by decide) ?_
  refine lv_aload_n hx hb dL_set_2 rfl (lv_at hl 0 rfl) ?_
  refine lv_iload_n hx hb dL_set_3 rfl (lv_at hl 1 rfl) ?_
  refine lv_iload_n hx hb dL_set_4 rfl (lv_at hl 2 rfl) ?_
  refine kcX (ci := 3) (q0 := 0) (As := [.int x1, .int x2]) (rest := [.int 0, .ref ao]) E.1 hM hX (cwV 2 hts gL_set_X3_set rfl rfl rfl hdX3_set ⟨Nat.le_of_ble_eq_true rfl, Nat.le_of_ble_eq_true rfl⟩) hKs hK hP hD hS hA hSt (outW cJ ao o) [] rfl rfl rfl rfl rfl rfl hl.1 (Nat.le_of_ble_eq_true rfl) dL_set_5 ⟨Nat.le_of_ble_eq_true rfl, Nat.le_of_ble_eq_true rfl⟩ (fun he ce q9 H locs hP hD hS hce hcv hcl => ?_) (fun he H locs hP hD hS => ?_)
  · have hL : L2 = L := hT he
    subst hL
    rcases hE with rfl | rfl | rfl
    · exact absurd rfl he
    · refine vx_catch (name := kXn 1) hown [] ⟨0, 10, 13, 13⟩ [] htab (fun z hz => by cases hz) (by decide) (by decide) qc0 (va_Nw.use rfl k11) hce hcv hcl ?_
      refine lv_astore (lv' := (4, .ref q9) :: [(0, .ref (aL 7 0)), (1, .int x1), (2, .int x2), (3, .ref ao)]) hx hb dL_set_13 hl (by decide) rfl (fun ls hl => ?_)
      refine lv_iconst (v := 1) hx hb dL_set_15 (by decide) ?_
      exact krY hx hb hr hlk hP hD hS dL_set_16 (Nat.le_of_ble_eq_true rfl) (Nat.le_of_ble_eq_true rfl) (by decide) rfl
    · refine vx_catch (name := kXn 1) hown [] ⟨0, 10, 13, 13⟩ [] htab (fun z hz => by cases hz) (by decide) (by decide) qc0 (va_Nw.use rfl k11) hce hcv hcl ?_
      refine lv_astore (lv' := (4, .ref q9) :: [(0, .ref (aL 7 0)), (1, .int x1), (2, .int x2), (3, .ref ao)]) hx hb dL_set_13 hl (by decide) rfl (fun ls hl => ?_)
      refine lv_iconst (v := 1) hx hb dL_set_15 (by decide) ?_
      exact krY hx hb hr hlk hP hD hS dL_set_16 (Nat.le_of_ble_eq_true rfl) (Nat.le_of_ble_eq_true rfl) (by decide) rfl
  · subst he
    refine lv_i2l (v := r.toInt64) hx hb dL_set_8 rfl ?_
    refine va_last hx hb hK hP hD hS 0 3 rfl rfl (by unfold vp_in; decide) dL_set_9 (fun H locs hP hD hS => ?_)
    have hP : va_P D vwCl (outW cJ ao (va_up o 0 r.toInt64) ++ (lsW cI cB cS aL L2 ++ [])) H := hP
    have hD : va_D A (outW cJ ao (va_up o 0 r.toInt64) ++ (lsW cI cB cS aL L2 ++ [])) := hD
    refine lv_goto (tgt := 17) hx hb dL_set_10 (by decide) ?_
    refine lv_iconst (v := 0) hx hb dL_set_17 (by decide) ?_
    exact krY hx hb hr hlk hP hD hS dL_set_18 (Nat.le_of_ble_eq_true rfl) (Nat.le_of_ble_eq_true rfl) (by decide) rfl

theorem hdL_value : yL_value.cls ≠ "java/lang/invoke/MethodHandle" ∧ yL_value.cls ≠ "java/lang/invoke/VarHandle" ∧ (parseMethodDescriptor yL_value.desc).map (fun d => d.parameters.length) = some 3 := by decide +kernel
set_option maxHeartbeats 4000000 in
set_option maxRecDepth 100000 in
theorem cw_value {l : Launch} {D : va_G} {cI cB cS cJ : ClassId} {K : State → Prop} (EW : kEW D cI cB cS cJ K) (aL : Nat → Nat → Nat) (L L2 : Nat → St) (ao : Nat) (o : Nat → Int64) (x1 : Int32) {ec r : Int32} (hM : kX l D K yX3_value wsX3_value 6 82 [.ref (aL 7 0), .int x1] (lsW cI cB cS aL L) ec r (lsW cI cB cS aL L2)) (hE : ec = 0 ∨ ec = 1 ∨ ec = 1) (hT : ec ≠ 0 → L2 = L) : kY l D K yL_value wsL_value 7 103 [.ref (aL 7 0), .int x1, .ref ao] (outW cJ ao o ++ (lsW cI cB cS aL L ++ [])) (kc 1 1 ec) (outW cJ ao (if ec = 0 then va_up o 0 r.toInt64 else o) ++ (lsW cI cB cS aL L2 ++ [])) := by
  have E := EW.1.1
  refine kY_of (own := RL) (cc := cL_value) (maxL := 4) (tys := kty cI cB cS cJ) (hh := [(0, 9, 12, 13)]) (fun U h => (E.2 U h).1) (by decide) rfl rfl (Nat.le_of_ble_eq_true rfl) ?_
  intro p e s m below meth c A ls hx hb hr hml hts hown hlk hKs hK hP hD hA hS hl hSt htab
  have hl : lv_has ls 4 [(0, .ref (aL 7 0)), (1, .int x1), (2, .ref ao)] := hl
  have hX : CallFix p m c cL_value 4 s _ wsL_value RL := ⟨hx, hb, hml, hown, hts⟩
  obtain ⟨-, ⟨k11, k22, k33, k44⟩, k21, k13⟩ := EW.2 s hKs
  have qc0 := hts (.classLink RL 13 "java/lang/IllegalArgumentException") (List.mem_of_getElem? (i := 1) rfl)
  refine lv_aload_n hx hb dL_value_0 rfl (lv_at hl 2 rfl) ?_
  refine lv_iconst (v := 0) hx hb dL_value_1 (by decide) ?_
  refine lv_aload_n hx hb dL_value_2 rfl (lv_at hl 0 rfl) ?_
  refine lv_iload_n hx hb dL_value_3 rfl (lv_at hl 1 rfl) ?_
  refine kcX (ci := 3) (q0 := 0) (As := [.int x1]) (rest := [.int 0, .ref ao]) E.1 hM hX (cwV 1 hts gL_value_X3_value rfl rfl rfl hdX3_value ⟨Nat.le_of_ble_eq_true rfl, Nat.le_of_ble_eq_true rfl⟩) hKs hK hP hD hS hA hSt (outW cJ ao o) [] rfl rfl rfl rfl rfl rfl hl.1 (Nat.le_of_ble_eq_true rfl) dL_value_4 ⟨Nat.le_of_ble_eq_true rfl, Nat.le_of_ble_eq_true rfl⟩ (fun he ce q9 H locs hP hD hS hce hcv hcl => ?_) (fun he H locs hP hD hS => ?_)
  · have hL : L2 = L := hT he
    subst hL
    rcases hE with rfl | rfl | rfl
    · exact absurd rfl he
    · refine vx_catch (name := kXn 1) hown [] ⟨0, 9, 12, 13⟩ [] htab (fun z hz => by cases hz) (by decide) (by decide) qc0 (va_Nw.use rfl k11) hce hcv hcl ?_
      refine lv_astore_n (lv' := (3, .ref q9) :: [(0, .ref (aL 7 0)), (1, .int x1), (2, .ref ao)]) hx hb dL_value_12 rfl hl (by decide) rfl (fun ls hl => ?_)
      refine lv_iconst (v := 1) hx hb dL_value_13 (by decide) ?_
      exact krY hx hb hr hlk hP hD hS dL_value_14 (Nat.le_of_ble_eq_true rfl) (Nat.le_of_ble_eq_true rfl) (by decide) rfl
    · refine vx_catch (name := kXn 1) hown [] ⟨0, 9, 12, 13⟩ [] htab (fun z hz => by cases hz) (by decide) (by decide) qc0 (va_Nw.use rfl k11) hce hcv hcl ?_
      refine lv_astore_n (lv' := (3, .ref q9) :: [(0, .ref (aL 7 0)), (1, .int x1), (2, .ref ao)]) hx hb dL_value_12 rfl hl (by decide) rfl (fun ls hl => ?_)
      refine lv_iconst (v := 1) hx hb dL_value_13 (by decide) ?_
      exact krY hx hb hr hlk hP hD hS dL_value_14 (Nat.le_of_ble_eq_true rfl) (Nat.le_of_ble_eq_true rfl) (by decide) rfl
  · subst he
    refine lv_i2l (v := r.toInt64) hx hb dL_value_7 rfl ?_
    refine va_last hx hb hK hP hD hS 0 3 rfl rfl (by unfold vp_in; decide) dL_value_8 (fun H locs hP hD hS => ?_)
    have hP : va_P D vwCl (outW cJ ao (va_up o 0 r.toInt64) ++ (lsW cI cB cS aL L2 ++ [])) H := hP
    have hD : va_D A (outW cJ ao (va_up o 0 r.toInt64) ++ (lsW cI cB cS aL L2 ++ [])) := hD
    refine lv_goto (tgt := 15) hx hb dL_value_9 (by decide) ?_
    refine lv_iconst (v := 0) hx hb dL_value_15 (by decide) ?_
    exact krY hx hb hr hlk hP hD hS dL_value_16 (Nat.le_of_ble_eq_true rfl) (Nat.le_of_ble_eq_true rfl) (by decide) rfl

theorem hdL_start : yL_start.cls ≠ "java/lang/invoke/MethodHandle" ∧ yL_start.cls ≠ "java/lang/invoke/VarHandle" ∧ (parseMethodDescriptor yL_start.desc).map (fun d => d.parameters.length) = some 2 := by decide +kernel
set_option maxHeartbeats 4000000 in
set_option maxRecDepth 100000 in
theorem cw_start {l : Launch} {D : va_G} {cI cB cS cJ : ClassId} {K : State → Prop} (EW : kEW D cI cB cS cJ K) (aL : Nat → Nat → Nat) (L L2 : Nat → St) (ao : Nat) (o : Nat → Int64)  {ec r : Int32} (hM : kX l D K yX3_start wsX3_start 6 165 [.ref (aL 7 0)] (lsW cI cB cS aL L) ec r (lsW cI cB cS aL L2)) (hE : ec = 0 ∨ ec = 2 ∨ ec = 2) (hT : ec ≠ 0 → L2 = L) : kY l D K yL_start wsL_start 7 185 [.ref (aL 7 0), .ref ao] (outW cJ ao o ++ (lsW cI cB cS aL L ++ [])) (kc 2 2 ec) (outW cJ ao (if ec = 0 then va_up o 0 r.toInt64 else o) ++ (lsW cI cB cS aL L2 ++ [])) := by
  have E := EW.1.1
  refine kY_of (own := RL) (cc := cL_start) (maxL := 3) (tys := kty cI cB cS cJ) (hh := [(0, 8, 11, 15)]) (fun U h => (E.2 U h).1) (by decide) rfl rfl (Nat.le_of_ble_eq_true rfl) ?_
  intro p e s m below meth c A ls hx hb hr hml hts hown hlk hKs hK hP hD hA hS hl hSt htab
  have hl : lv_has ls 3 [(0, .ref (aL 7 0)), (1, .ref ao)] := hl
  have hX : CallFix p m c cL_start 3 s _ wsL_start RL := ⟨hx, hb, hml, hown, hts⟩
  obtain ⟨-, ⟨k11, k22, k33, k44⟩, k21, k13⟩ := EW.2 s hKs
  have qc0 := hts (.classLink RL 15 "java/lang/IllegalStateException") (List.mem_of_getElem? (i := 1) rfl)
  refine lv_aload_n hx hb dL_start_0 rfl (lv_at hl 1 rfl) ?_
  refine lv_iconst (v := 0) hx hb dL_start_1 (by decide) ?_
  refine lv_aload_n hx hb dL_start_2 rfl (lv_at hl 0 rfl) ?_
  refine kcX (ci := 3) (q0 := 0) (As := []) (rest := [.int 0, .ref ao]) E.1 hM hX (cwV 0 hts gL_start_X3_start rfl rfl rfl hdX3_start ⟨Nat.le_of_ble_eq_true rfl, Nat.le_of_ble_eq_true rfl⟩) hKs hK hP hD hS hA hSt (outW cJ ao o) [] rfl rfl rfl rfl rfl rfl hl.1 (Nat.le_of_ble_eq_true rfl) dL_start_3 ⟨Nat.le_of_ble_eq_true rfl, Nat.le_of_ble_eq_true rfl⟩ (fun he ce q9 H locs hP hD hS hce hcv hcl => ?_) (fun he H locs hP hD hS => ?_)
  · have hL : L2 = L := hT he
    subst hL
    rcases hE with rfl | rfl | rfl
    · exact absurd rfl he
    · refine vx_catch (name := kXn 2) hown [] ⟨0, 8, 11, 15⟩ [] htab (fun z hz => by cases hz) (by decide) (by decide) qc0 (va_Nw.use rfl k22) hce hcv hcl ?_
      refine lv_astore_n (lv' := (2, .ref q9) :: [(0, .ref (aL 7 0)), (1, .ref ao)]) hx hb dL_start_11 rfl hl (by decide) rfl (fun ls hl => ?_)
      refine lv_iconst (v := 1) hx hb dL_start_12 (by decide) ?_
      exact krY hx hb hr hlk hP hD hS dL_start_13 (Nat.le_of_ble_eq_true rfl) (Nat.le_of_ble_eq_true rfl) (by decide) rfl
    · refine vx_catch (name := kXn 2) hown [] ⟨0, 8, 11, 15⟩ [] htab (fun z hz => by cases hz) (by decide) (by decide) qc0 (va_Nw.use rfl k22) hce hcv hcl ?_
      refine lv_astore_n (lv' := (2, .ref q9) :: [(0, .ref (aL 7 0)), (1, .ref ao)]) hx hb dL_start_11 rfl hl (by decide) rfl (fun ls hl => ?_)
      refine lv_iconst (v := 1) hx hb dL_start_12 (by decide) ?_
      exact krY hx hb hr hlk hP hD hS dL_start_13 (Nat.le_of_ble_eq_true rfl) (Nat.le_of_ble_eq_true rfl) (by decide) rfl
  · subst he
    refine lv_i2l (v := r.toInt64) hx hb dL_start_6 rfl ?_
    refine va_last hx hb hK hP hD hS 0 3 rfl rfl (by unfold vp_in; decide) dL_start_7 (fun H locs hP hD hS => ?_)
    have hP : va_P D vwCl (outW cJ ao (va_up o 0 r.toInt64) ++ (lsW cI cB cS aL L2 ++ [])) H := hP
    have hD : va_D A (outW cJ ao (va_up o 0 r.toInt64) ++ (lsW cI cB cS aL L2 ++ [])) := hD
    refine lv_goto (tgt := 14) hx hb dL_start_8 (by decide) ?_
    refine lv_iconst (v := 0) hx hb dL_start_14 (by decide) ?_
    exact krY hx hb hr hlk hP hD hS dL_start_15 (Nat.le_of_ble_eq_true rfl) (Nat.le_of_ble_eq_true rfl) (by decide) rfl

theorem hdL_stop : yL_stop.cls ≠ "java/lang/invoke/MethodHandle" ∧ yL_stop.cls ≠ "java/lang/invoke/VarHandle" ∧ (parseMethodDescriptor yL_stop.desc).map (fun d => d.parameters.length) = some 2 := by decide +kernel
set_option maxHeartbeats 4000000 in
set_option maxRecDepth 100000 in
theorem cw_stop {l : Launch} {D : va_G} {cI cB cS cJ : ClassId} {K : State → Prop} (EW : kEW D cI cB cS cJ K) (aL : Nat → Nat → Nat) (L L2 : Nat → St) (ao : Nat) (o : Nat → Int64)  {ec r : Int32} (hM : kX l D K yX3_stop wsX3_stop 6 165 [.ref (aL 7 0)] (lsW cI cB cS aL L) ec r (lsW cI cB cS aL L2)) (hE : ec = 0 ∨ ec = 2 ∨ ec = 2) (hT : ec ≠ 0 → L2 = L) : kY l D K yL_stop wsL_stop 7 185 [.ref (aL 7 0), .ref ao] (outW cJ ao o ++ (lsW cI cB cS aL L ++ [])) (kc 2 2 ec) (outW cJ ao (if ec = 0 then va_up o 0 r.toInt64 else o) ++ (lsW cI cB cS aL L2 ++ [])) := by
  have E := EW.1.1
  refine kY_of (own := RL) (cc := cL_stop) (maxL := 3) (tys := kty cI cB cS cJ) (hh := [(0, 8, 11, 15)]) (fun U h => (E.2 U h).1) (by decide) rfl rfl (Nat.le_of_ble_eq_true rfl) ?_
  intro p e s m below meth c A ls hx hb hr hml hts hown hlk hKs hK hP hD hA hS hl hSt htab
  have hl : lv_has ls 3 [(0, .ref (aL 7 0)), (1, .ref ao)] := hl
  have hX : CallFix p m c cL_stop 3 s _ wsL_stop RL := ⟨hx, hb, hml, hown, hts⟩
  obtain ⟨-, ⟨k11, k22, k33, k44⟩, k21, k13⟩ := EW.2 s hKs
  have qc0 := hts (.classLink RL 15 "java/lang/IllegalStateException") (List.mem_of_getElem? (i := 1) rfl)
  refine lv_aload_n hx hb dL_stop_0 rfl (lv_at hl 1 rfl) ?_
  refine lv_iconst (v := 0) hx hb dL_stop_1 (by decide) ?_
  refine lv_aload_n hx hb dL_stop_2 rfl (lv_at hl 0 rfl) ?_
  refine kcX (ci := 3) (q0 := 0) (As := []) (rest := [.int 0, .ref ao]) E.1 hM hX (cwV 0 hts gL_stop_X3_stop rfl rfl rfl hdX3_stop ⟨Nat.le_of_ble_eq_true rfl, Nat.le_of_ble_eq_true rfl⟩) hKs hK hP hD hS hA hSt (outW cJ ao o) [] rfl rfl rfl rfl rfl rfl hl.1 (Nat.le_of_ble_eq_true rfl) dL_stop_3 ⟨Nat.le_of_ble_eq_true rfl, Nat.le_of_ble_eq_true rfl⟩ (fun he ce q9 H locs hP hD hS hce hcv hcl => ?_) (fun he H locs hP hD hS => ?_)
  · have hL : L2 = L := hT he
    subst hL
    rcases hE with rfl | rfl | rfl
    · exact absurd rfl he
    · refine vx_catch (name := kXn 2) hown [] ⟨0, 8, 11, 15⟩ [] htab (fun z hz => by cases hz) (by decide) (by decide) qc0 (va_Nw.use rfl k22) hce hcv hcl ?_
      refine lv_astore_n (lv' := (2, .ref q9) :: [(0, .ref (aL 7 0)), (1, .ref ao)]) hx hb dL_stop_11 rfl hl (by decide) rfl (fun ls hl => ?_)
      refine lv_iconst (v := 1) hx hb dL_stop_12 (by decide) ?_
      exact krY hx hb hr hlk hP hD hS dL_stop_13 (Nat.le_of_ble_eq_true rfl) (Nat.le_of_ble_eq_true rfl) (by decide) rfl
    · refine vx_catch (name := kXn 2) hown [] ⟨0, 8, 11, 15⟩ [] htab (fun z hz => by cases hz) (by decide) (by decide) qc0 (va_Nw.use rfl k22) hce hcv hcl ?_
      refine lv_astore_n (lv' := (2, .ref q9) :: [(0, .ref (aL 7 0)), (1, .ref ao)]) hx hb dL_stop_11 rfl hl (by decide) rfl (fun ls hl => ?_)
      refine lv_iconst (v := 1) hx hb dL_stop_12 (by decide) ?_
      exact krY hx hb hr hlk hP hD hS dL_stop_13 (Nat.le_of_ble_eq_true rfl) (Nat.le_of_ble_eq_true rfl) (by decide) rfl
  · subst he
    refine lv_i2l (v := r.toInt64) hx hb dL_stop_6 rfl ?_
    refine va_last hx hb hK hP hD hS 0 3 rfl rfl (by unfold vp_in; decide) dL_stop_7 (fun H locs hP hD hS => ?_)
    have hP : va_P D vwCl (outW cJ ao (va_up o 0 r.toInt64) ++ (lsW cI cB cS aL L2 ++ [])) H := hP
    have hD : va_D A (outW cJ ao (va_up o 0 r.toInt64) ++ (lsW cI cB cS aL L2 ++ [])) := hD
    refine lv_goto (tgt := 14) hx hb dL_stop_8 (by decide) ?_
    refine lv_iconst (v := 0) hx hb dL_stop_14 (by decide) ?_
    exact krY hx hb hr hlk hP hD hS dL_stop_15 (Nat.le_of_ble_eq_true rfl) (Nat.le_of_ble_eq_true rfl) (by decide) rfl

theorem hdL_reset : yL_reset.cls ≠ "java/lang/invoke/MethodHandle" ∧ yL_reset.cls ≠ "java/lang/invoke/VarHandle" ∧ (parseMethodDescriptor yL_reset.desc).map (fun d => d.parameters.length) = some 2 := by decide +kernel
set_option maxHeartbeats 4000000 in
set_option maxRecDepth 100000 in
theorem cw_reset {l : Launch} {D : va_G} {cI cB cS cJ : ClassId} {K : State → Prop} (EW : kEW D cI cB cS cJ K) (aL : Nat → Nat → Nat) (L L2 : Nat → St) (ao : Nat) (o : Nat → Int64)  {ec r : Int32} (hM : kX l D K yX3_reset wsX3_reset 6 165 [.ref (aL 7 0)] (lsW cI cB cS aL L) ec r (lsW cI cB cS aL L2)) (hE : ec = 0 ∨ ec = 2 ∨ ec = 2) (hT : ec ≠ 0 → L2 = L) : kY l D K yL_reset wsL_reset 7 186 [.ref (aL 7 0), .ref ao] (outW cJ ao o ++ (lsW cI cB cS aL L ++ [])) (kc 2 2 ec) (outW cJ ao (if ec = 0 then va_up o 0 r.toInt64 else o) ++ (lsW cI cB cS aL L2 ++ [])) := by
  have E := EW.1.1
  refine kY_of (own := RL) (cc := cL_reset) (maxL := 3) (tys := kty cI cB cS cJ) (hh := [(0, 8, 11, 15)]) (fun U h => (E.2 U h).1) (by decide) rfl rfl (Nat.le_of_ble_eq_true rfl) ?_
  intro p e s m below meth c A ls hx hb hr hml hts hown hlk hKs hK hP hD hA hS hl hSt htab
  have hl : lv_has ls 3 [(0, .ref (aL 7 0)), (1, .ref ao)] := hl
  have hX : CallFix p m c cL_reset 3 s _ wsL_reset RL := ⟨hx, hb, hml, hown, hts⟩
  obtain ⟨-, ⟨k11, k22, k33, k44⟩, k21, k13⟩ := EW.2 s hKs
  have qc0 := hts (.classLink RL 15 "java/lang/IllegalStateException") (List.mem_of_getElem? (i := 1) rfl)
  refine lv_aload_n hx hb dL_reset_0 rfl (lv_at hl 1 rfl) ?_
  refine lv_iconst (v := 0) hx hb dL_reset_1 (by decide) ?_
  refine lv_aload_n hx hb dL_reset_2 rfl (lv_at hl 0 rfl) ?_
  refine kcX (ci := 3) (q0 := 0) (As := []) (rest := [.int 0, .ref ao]) E.1 hM hX (cwV 0 hts gL_reset_X3_reset rfl rfl rfl hdX3_reset ⟨Nat.le_of_ble_eq_true rfl, Nat.le_of_ble_eq_true rfl⟩) hKs hK hP hD hS hA hSt (outW cJ ao o) [] rfl rfl rfl rfl rfl rfl hl.1 (Nat.le_of_ble_eq_true rfl) dL_reset_3 ⟨Nat.le_of_ble_eq_true rfl, Nat.le_of_ble_eq_true rfl⟩ (fun he ce q9 H locs hP hD hS hce hcv hcl => ?_) (fun he H locs hP hD hS => ?_)
  · have hL : L2 = L := hT he
    subst hL
    rcases hE with rfl | rfl | rfl
    · exact absurd rfl he
    · refine vx_catch (name := kXn 2) hown [] ⟨0, 8, 11, 15⟩ [] htab (fun z hz => by cases hz) (by decide) (by decide) qc0 (va_Nw.use rfl k22) hce hcv hcl ?_
      refine lv_astore_n (lv' := (2, .ref q9) :: [(0, .ref (aL 7 0)), (1, .ref ao)]) hx hb dL_reset_11 rfl hl (by decide) rfl (fun ls hl => ?_)
      refine lv_iconst (v := 1) hx hb dL_reset_12 (by decide) ?_
      exact krY hx hb hr hlk hP hD hS dL_reset_13 (Nat.le_of_ble_eq_true rfl) (Nat.le_of_ble_eq_true rfl) (by decide) rfl
    · refine vx_catch (name := kXn 2) hown [] ⟨0, 8, 11, 15⟩ [] htab (fun z hz => by cases hz) (by decide) (by decide) qc0 (va_Nw.use rfl k22) hce hcv hcl ?_
      refine lv_astore_n (lv' := (2, .ref q9) :: [(0, .ref (aL 7 0)), (1, .ref ao)]) hx hb dL_reset_11 rfl hl (by decide) rfl (fun ls hl => ?_)
      refine lv_iconst (v := 1) hx hb dL_reset_12 (by decide) ?_
      exact krY hx hb hr hlk hP hD hS dL_reset_13 (Nat.le_of_ble_eq_true rfl) (Nat.le_of_ble_eq_true rfl) (by decide) rfl
  · subst he
    refine lv_i2l (v := r.toInt64) hx hb dL_reset_6 rfl ?_
    refine va_last hx hb hK hP hD hS 0 3 rfl rfl (by unfold vp_in; decide) dL_reset_7 (fun H locs hP hD hS => ?_)
    have hP : va_P D vwCl (outW cJ ao (va_up o 0 r.toInt64) ++ (lsW cI cB cS aL L2 ++ [])) H := hP
    have hD : va_D A (outW cJ ao (va_up o 0 r.toInt64) ++ (lsW cI cB cS aL L2 ++ [])) := hD
    refine lv_goto (tgt := 14) hx hb dL_reset_8 (by decide) ?_
    refine lv_iconst (v := 0) hx hb dL_reset_14 (by decide) ?_
    exact krY hx hb hr hlk hP hD hS dL_reset_15 (Nat.le_of_ble_eq_true rfl) (Nat.le_of_ble_eq_true rfl) (by decide) rfl

theorem hdL_feed : yL_feed.cls ≠ "java/lang/invoke/MethodHandle" ∧ yL_feed.cls ≠ "java/lang/invoke/VarHandle" ∧ (parseMethodDescriptor yL_feed.desc).map (fun d => d.parameters.length) = some 3 := by decide +kernel
set_option maxHeartbeats 4000000 in
set_option maxRecDepth 100000 in
theorem cw_feed {l : Launch} {D : va_G} {cI cB cS cJ : ClassId} {K : State → Prop} (EW : kEW D cI cB cS cJ K) (aL : Nat → Nat → Nat) (L L2 : Nat → St) (ao : Nat) (o : Nat → Int64) (x1 : Int32) {ec r : Int32} (hM : kX l D K yX3_feed wsX3_feed 6 165 [.ref (aL 7 0), .int x1] (lsW cI cB cS aL L) ec r (lsW cI cB cS aL L2)) (hE : ec = 0 ∨ ec = 1 ∨ ec = 2) (hT : ec ≠ 0 → L2 = L) : kY l D K yL_feed wsL_feed 7 186 [.ref (aL 7 0), .int x1, .ref ao] (outW cJ ao o ++ (lsW cI cB cS aL L ++ [])) (kc 1 2 ec) (outW cJ ao (if ec = 0 then va_up o 0 r.toInt64 else o) ++ (lsW cI cB cS aL L2 ++ [])) := by
  have E := EW.1.1
  refine kY_of (own := RL) (cc := cL_feed) (maxL := 4) (tys := kty cI cB cS cJ) (hh := [(0, 9, 12, 13), (0, 9, 15, 15)]) (fun U h => (E.2 U h).1) (by decide) rfl rfl (Nat.le_of_ble_eq_true rfl) ?_
  intro p e s m below meth c A ls hx hb hr hml hts hown hlk hKs hK hP hD hA hS hl hSt htab
  have hl : lv_has ls 4 [(0, .ref (aL 7 0)), (1, .int x1), (2, .ref ao)] := hl
  have hX : CallFix p m c cL_feed 4 s _ wsL_feed RL := ⟨hx, hb, hml, hown, hts⟩
  obtain ⟨-, ⟨k11, k22, k33, k44⟩, k21, k13⟩ := EW.2 s hKs
  have qc0 := hts (.classLink RL 13 "java/lang/IllegalArgumentException") (List.mem_of_getElem? (i := 1) rfl)
  have qc1 := hts (.classLink RL 15 "java/lang/IllegalStateException") (List.mem_of_getElem? (i := 2) rfl)
  refine lv_aload_n hx hb dL_feed_0 rfl (lv_at hl 2 rfl) ?_
  refine lv_iconst (v := 0) hx hb dL_feed_1 (by decide) ?_
  refine lv_aload_n hx hb dL_feed_2 rfl (lv_at hl 0 rfl) ?_
  refine lv_iload_n hx hb dL_feed_3 rfl (lv_at hl 1 rfl) ?_
  refine kcX (ci := 3) (q0 := 0) (As := [.int x1]) (rest := [.int 0, .ref ao]) E.1 hM hX (cwV 1 hts gL_feed_X3_feed rfl rfl rfl hdX3_feed ⟨Nat.le_of_ble_eq_true rfl, Nat.le_of_ble_eq_true rfl⟩) hKs hK hP hD hS hA hSt (outW cJ ao o) [] rfl rfl rfl rfl rfl rfl hl.1 (Nat.le_of_ble_eq_true rfl) dL_feed_4 ⟨Nat.le_of_ble_eq_true rfl, Nat.le_of_ble_eq_true rfl⟩ (fun he ce q9 H locs hP hD hS hce hcv hcl => ?_) (fun he H locs hP hD hS => ?_)
  · have hL : L2 = L := hT he
    subst hL
    rcases hE with rfl | rfl | rfl
    · exact absurd rfl he
    · refine vx_catch (name := kXn 1) hown [] ⟨0, 9, 12, 13⟩ [⟨0, 9, 15, 15⟩] htab (fun z hz => by cases hz) (by decide) (by decide) qc0 (va_Nw.use rfl k11) hce hcv hcl ?_
      refine lv_astore_n (lv' := (3, .ref q9) :: [(0, .ref (aL 7 0)), (1, .int x1), (2, .ref ao)]) hx hb dL_feed_12 rfl hl (by decide) rfl (fun ls hl => ?_)
      refine lv_iconst (v := 1) hx hb dL_feed_13 (by decide) ?_
      exact krY hx hb hr hlk hP hD hS dL_feed_14 (Nat.le_of_ble_eq_true rfl) (Nat.le_of_ble_eq_true rfl) (by decide) rfl
    · refine vx_catch (name := kXn 2) hown [⟨0, 9, 12, 13⟩] ⟨0, 9, 15, 15⟩ [] htab (fun z hz => Or.inr (by rw [List.mem_singleton.mp hz]; exact ⟨(by decide), _, qc0, k21⟩)) (by decide) (by decide) qc1 (va_Nw.use rfl k22) hce hcv hcl ?_
      refine lv_astore_n (lv' := (3, .ref q9) :: [(0, .ref (aL 7 0)), (1, .int x1), (2, .ref ao)]) hx hb dL_feed_15 rfl hl (by decide) rfl (fun ls hl => ?_)
      refine lv_iconst (v := 2) hx hb dL_feed_16 (by decide) ?_
      exact krY hx hb hr hlk hP hD hS dL_feed_17 (Nat.le_of_ble_eq_true rfl) (Nat.le_of_ble_eq_true rfl) (by decide) rfl
  · subst he
    refine lv_i2l (v := r.toInt64) hx hb dL_feed_7 rfl ?_
    refine va_last hx hb hK hP hD hS 0 3 rfl rfl (by unfold vp_in; decide) dL_feed_8 (fun H locs hP hD hS => ?_)
    have hP : va_P D vwCl (outW cJ ao (va_up o 0 r.toInt64) ++ (lsW cI cB cS aL L2 ++ [])) H := hP
    have hD : va_D A (outW cJ ao (va_up o 0 r.toInt64) ++ (lsW cI cB cS aL L2 ++ [])) := hD
    refine lv_goto (tgt := 18) hx hb dL_feed_9 (by decide) ?_
    refine lv_iconst (v := 0) hx hb dL_feed_18 (by decide) ?_
    exact krY hx hb hr hlk hP hD hS dL_feed_19 (Nat.le_of_ble_eq_true rfl) (Nat.le_of_ble_eq_true rfl) (by decide) rfl

theorem hdL_slip : yL_slip.cls ≠ "java/lang/invoke/MethodHandle" ∧ yL_slip.cls ≠ "java/lang/invoke/VarHandle" ∧ (parseMethodDescriptor yL_slip.desc).map (fun d => d.parameters.length) = some 4 := by decide +kernel
set_option maxHeartbeats 4000000 in
set_option maxRecDepth 100000 in
theorem cw_slip {l : Launch} {D : va_G} {cI cB cS cJ : ClassId} {K : State → Prop} (EW : kEW D cI cB cS cJ K) (aL : Nat → Nat → Nat) (L L2 : Nat → St) (ao : Nat) (o : Nat → Int64) (x1 x2 : Int32) {ec r : Int32} (hM : kX l D K yX3_slip wsX3_slip 6 165 [.ref (aL 7 0), .int x1, .int x2] (lsW cI cB cS aL L) ec r (lsW cI cB cS aL L2)) (hE : ec = 0 ∨ ec = 3 ∨ ec = 1) (hT : ec ≠ 0 → L2 = L) : kY l D K yL_slip wsL_slip 7 189 [.ref (aL 7 0), .int x1, .int x2, .ref ao] (outW cJ ao o ++ (lsW cI cB cS aL L ++ [])) (kc 3 1 ec) (outW cJ ao (if ec = 0 then va_up o 0 r.toInt64 else o) ++ (lsW cI cB cS aL L2 ++ [])) := by
  have E := EW.1.1
  refine kY_of (own := RL) (cc := cL_slip) (maxL := 5) (tys := kty cI cB cS cJ) (hh := [(0, 10, 13, 41), (0, 10, 17, 13)]) (fun U h => (E.2 U h).1) (by decide) rfl rfl (Nat.le_of_ble_eq_true rfl) ?_
  intro p e s m below meth c A ls hx hb hr hml hts hown hlk hKs hK hP hD hA hS hl hSt htab
  have hl : lv_has ls 5 [(0, .ref (aL 7 0)), (1, .int x1), (2, .int x2), (3, .ref ao)] := hl
  have hX : CallFix p m c cL_slip 5 s _ wsL_slip RL := ⟨hx, hb, hml, hown, hts⟩
  obtain ⟨-, ⟨k11, k22, k33, k44⟩, k21, k13⟩ := EW.2 s hKs
  have qc0 := hts (.classLink RL 41 "java/util/NoSuchElementException") (List.mem_of_getElem? (i := 1) rfl)
  have qc1 := hts (.classLink RL 13 "java/lang/IllegalArgumentException") (List.mem_of_getElem? (i := 2) rfl)
  refine lv_aload_n hx hb dL_slip_0 rfl (lv_at hl 3 rfl) ?_
  refine lv_iconst (v := 0) hx hb dL_slip_1 (by decide) ?_
  refine lv_aload_n hx hb dL_slip_2 rfl (lv_at hl 0 rfl) ?_
  refine lv_iload_n hx hb dL_slip_3 rfl (lv_at hl 1 rfl) ?_
  refine lv_iload_n hx hb dL_slip_4 rfl (lv_at hl 2 rfl) ?_
  refine kcX (ci := 3) (q0 := 0) (As := [.int x1, .int x2]) (rest := [.int 0, .ref ao]) E.1 hM hX (cwV 2 hts gL_slip_X3_slip rfl rfl rfl hdX3_slip ⟨Nat.le_of_ble_eq_true rfl, Nat.le_of_ble_eq_true rfl⟩) hKs hK hP hD hS hA hSt (outW cJ ao o) [] rfl rfl rfl rfl rfl rfl hl.1 (Nat.le_of_ble_eq_true rfl) dL_slip_5 ⟨Nat.le_of_ble_eq_true rfl, Nat.le_of_ble_eq_true rfl⟩ (fun he ce q9 H locs hP hD hS hce hcv hcl => ?_) (fun he H locs hP hD hS => ?_)
  · have hL : L2 = L := hT he
    subst hL
    rcases hE with rfl | rfl | rfl
    · exact absurd rfl he
    · refine vx_catch (name := kXn 3) hown [] ⟨0, 10, 13, 41⟩ [⟨0, 10, 17, 13⟩] htab (fun z hz => by cases hz) (by decide) (by decide) qc0 (va_Nw.use rfl k33) hce hcv hcl ?_
      refine lv_astore (lv' := (4, .ref q9) :: [(0, .ref (aL 7 0)), (1, .int x1), (2, .int x2), (3, .ref ao)]) hx hb dL_slip_13 hl (by decide) rfl (fun ls hl => ?_)
      refine lv_iconst (v := 1) hx hb dL_slip_15 (by decide) ?_
      exact krY hx hb hr hlk hP hD hS dL_slip_16 (Nat.le_of_ble_eq_true rfl) (Nat.le_of_ble_eq_true rfl) (by decide) rfl
    · refine vx_catch (name := kXn 1) hown [⟨0, 10, 13, 41⟩] ⟨0, 10, 17, 13⟩ [] htab (fun z hz => Or.inr (by rw [List.mem_singleton.mp hz]; exact ⟨(by decide), _, qc0, k13⟩)) (by decide) (by decide) qc1 (va_Nw.use rfl k11) hce hcv hcl ?_
      refine lv_astore (lv' := (4, .ref q9) :: [(0, .ref (aL 7 0)), (1, .int x1), (2, .int x2), (3, .ref ao)]) hx hb dL_slip_17 hl (by decide) rfl (fun ls hl => ?_)
      refine lv_iconst (v := 2) hx hb dL_slip_19 (by decide) ?_
      exact krY hx hb hr hlk hP hD hS dL_slip_20 (Nat.le_of_ble_eq_true rfl) (Nat.le_of_ble_eq_true rfl) (by decide) rfl
  · subst he
    refine lv_i2l (v := r.toInt64) hx hb dL_slip_8 rfl ?_
    refine va_last hx hb hK hP hD hS 0 3 rfl rfl (by unfold vp_in; decide) dL_slip_9 (fun H locs hP hD hS => ?_)
    have hP : va_P D vwCl (outW cJ ao (va_up o 0 r.toInt64) ++ (lsW cI cB cS aL L2 ++ [])) H := hP
    have hD : va_D A (outW cJ ao (va_up o 0 r.toInt64) ++ (lsW cI cB cS aL L2 ++ [])) := hD
    refine lv_goto (tgt := 21) hx hb dL_slip_10 (by decide) ?_
    refine lv_iconst (v := 0) hx hb dL_slip_21 (by decide) ?_
    exact krY hx hb hr hlk hP hD hS dL_slip_22 (Nat.le_of_ble_eq_true rfl) (Nat.le_of_ble_eq_true rfl) (by decide) rfl

theorem hdL_take : yL_take.cls ≠ "java/lang/invoke/MethodHandle" ∧ yL_take.cls ≠ "java/lang/invoke/VarHandle" ∧ (parseMethodDescriptor yL_take.desc).map (fun d => d.parameters.length) = some 3 := by decide +kernel
set_option maxHeartbeats 4000000 in
set_option maxRecDepth 100000 in
theorem cw_take {l : Launch} {D : va_G} {cI cB cS cJ : ClassId} {K : State → Prop} (EW : kEW D cI cB cS cJ K) (aL : Nat → Nat → Nat) (L L2 : Nat → St) (ao : Nat) (o : Nat → Int64) (x1 : Int32) {ec r : Int32} (hM : kX l D K yX3_take wsX3_take 6 165 [.ref (aL 7 0), .int x1] (lsW cI cB cS aL L) ec r (lsW cI cB cS aL L2)) (hE : ec = 0 ∨ ec = 3 ∨ ec = 3) (hT : ec ≠ 0 → L2 = L) : kY l D K yL_take wsL_take 7 188 [.ref (aL 7 0), .int x1, .ref ao] (outW cJ ao o ++ (lsW cI cB cS aL L ++ [])) (kc 3 3 ec) (outW cJ ao (if ec = 0 then va_up o 0 r.toInt64 else o) ++ (lsW cI cB cS aL L2 ++ [])) := by
  have E := EW.1.1
  refine kY_of (own := RL) (cc := cL_take) (maxL := 4) (tys := kty cI cB cS cJ) (hh := [(0, 9, 12, 41)]) (fun U h => (E.2 U h).1) (by decide) rfl rfl (Nat.le_of_ble_eq_true rfl) ?_
  intro p e s m below meth c A ls hx hb hr hml hts hown hlk hKs hK hP hD hA hS hl hSt htab
  have hl : lv_has ls 4 [(0, .ref (aL 7 0)), (1, .int x1), (2, .ref ao)] := hl
  have hX : CallFix p m c cL_take 4 s _ wsL_take RL := ⟨hx, hb, hml, hown, hts⟩
  obtain ⟨-, ⟨k11, k22, k33, k44⟩, k21, k13⟩ := EW.2 s hKs
  have qc0 := hts (.classLink RL 41 "java/util/NoSuchElementException") (List.mem_of_getElem? (i := 1) rfl)
  refine lv_aload_n hx hb dL_take_0 rfl (lv_at hl 2 rfl) ?_
  refine lv_iconst (v := 0) hx hb dL_take_1 (by decide) ?_
  refine lv_aload_n hx hb dL_take_2 rfl (lv_at hl 0 rfl) ?_
  refine lv_iload_n hx hb dL_take_3 rfl (lv_at hl 1 rfl) ?_
  refine kcX (ci := 3) (q0 := 0) (As := [.int x1]) (rest := [.int 0, .ref ao]) E.1 hM hX (cwV 1 hts gL_take_X3_take rfl rfl rfl hdX3_take ⟨Nat.le_of_ble_eq_true rfl, Nat.le_of_ble_eq_true rfl⟩) hKs hK hP hD hS hA hSt (outW cJ ao o) [] rfl rfl rfl rfl rfl rfl hl.1 (Nat.le_of_ble_eq_true rfl) dL_take_4 ⟨Nat.le_of_ble_eq_true rfl, Nat.le_of_ble_eq_true rfl⟩ (fun he ce q9 H locs hP hD hS hce hcv hcl => ?_) (fun he H locs hP hD hS => ?_)
  · have hL : L2 = L := hT he
    subst hL
    rcases hE with rfl | rfl | rfl
    · exact absurd rfl he
    · refine vx_catch (name := kXn 3) hown [] ⟨0, 9, 12, 41⟩ [] htab (fun z hz => by cases hz) (by decide) (by decide) qc0 (va_Nw.use rfl k33) hce hcv hcl ?_
      refine lv_astore_n (lv' := (3, .ref q9) :: [(0, .ref (aL 7 0)), (1, .int x1), (2, .ref ao)]) hx hb dL_take_12 rfl hl (by decide) rfl (fun ls hl => ?_)
      refine lv_iconst (v := 1) hx hb dL_take_13 (by decide) ?_
      exact krY hx hb hr hlk hP hD hS dL_take_14 (Nat.le_of_ble_eq_true rfl) (Nat.le_of_ble_eq_true rfl) (by decide) rfl
    · refine vx_catch (name := kXn 3) hown [] ⟨0, 9, 12, 41⟩ [] htab (fun z hz => by cases hz) (by decide) (by decide) qc0 (va_Nw.use rfl k33) hce hcv hcl ?_
      refine lv_astore_n (lv' := (3, .ref q9) :: [(0, .ref (aL 7 0)), (1, .int x1), (2, .ref ao)]) hx hb dL_take_12 rfl hl (by decide) rfl (fun ls hl => ?_)
      refine lv_iconst (v := 1) hx hb dL_take_13 (by decide) ?_
      exact krY hx hb hr hlk hP hD hS dL_take_14 (Nat.le_of_ble_eq_true rfl) (Nat.le_of_ble_eq_true rfl) (by decide) rfl
  · subst he
    refine lv_i2l (v := r.toInt64) hx hb dL_take_7 rfl ?_
    refine va_last hx hb hK hP hD hS 0 3 rfl rfl (by unfold vp_in; decide) dL_take_8 (fun H locs hP hD hS => ?_)
    have hP : va_P D vwCl (outW cJ ao (va_up o 0 r.toInt64) ++ (lsW cI cB cS aL L2 ++ [])) H := hP
    have hD : va_D A (outW cJ ao (va_up o 0 r.toInt64) ++ (lsW cI cB cS aL L2 ++ [])) := hD
    refine lv_goto (tgt := 15) hx hb dL_take_9 (by decide) ?_
    refine lv_iconst (v := 0) hx hb dL_take_15 (by decide) ?_
    exact krY hx hb hr hlk hP hD hS dL_take_16 (Nat.le_of_ble_eq_true rfl) (Nat.le_of_ble_eq_true rfl) (by decide) rfl

theorem hdL_run : yL_run.cls ≠ "java/lang/invoke/MethodHandle" ∧ yL_run.cls ≠ "java/lang/invoke/VarHandle" ∧ (parseMethodDescriptor yL_run.desc).map (fun d => d.parameters.length) = some 3 := by decide +kernel
set_option maxHeartbeats 4000000 in
set_option maxRecDepth 100000 in
theorem cw_run {l : Launch} {D : va_G} {cI cB cS cJ : ClassId} {K : State → Prop} (EW : kEW D cI cB cS cJ K) (aL : Nat → Nat → Nat) (L L2 : Nat → St) (ao : Nat) (o : Nat → Int64) (x1 : Int32) {ec r : Int32} (hM : kX l D K yX3_run wsX3_run 6 165 [.ref (aL 7 0), .int x1] (lsW cI cB cS aL L) ec r (lsW cI cB cS aL L2)) (hE : ec = 0 ∨ ec = 1 ∨ ec = 1) (hT : ec ≠ 0 → L2 = L) : kY l D K yL_run wsL_run 7 187 [.ref (aL 7 0), .int x1, .ref ao] (outW cJ ao o ++ (lsW cI cB cS aL L ++ [])) (kc 1 1 ec) (outW cJ ao (if ec = 0 then va_up o 0 r.toInt64 else o) ++ (lsW cI cB cS aL L2 ++ [])) := by
  have E := EW.1.1
  refine kY_of (own := RL) (cc := cL_run) (maxL := 4) (tys := kty cI cB cS cJ) (hh := [(0, 9, 12, 13)]) (fun U h => (E.2 U h).1) (by decide) rfl rfl (Nat.le_of_ble_eq_true rfl) ?_
  intro p e s m below meth c A ls hx hb hr hml hts hown hlk hKs hK hP hD hA hS hl hSt htab
  have hl : lv_has ls 4 [(0, .ref (aL 7 0)), (1, .int x1), (2, .ref ao)] := hl
  have hX : CallFix p m c cL_run 4 s _ wsL_run RL := ⟨hx, hb, hml, hown, hts⟩
  obtain ⟨-, ⟨k11, k22, k33, k44⟩, k21, k13⟩ := EW.2 s hKs
  have qc0 := hts (.classLink RL 13 "java/lang/IllegalArgumentException") (List.mem_of_getElem? (i := 1) rfl)
  refine lv_aload_n hx hb dL_run_0 rfl (lv_at hl 2 rfl) ?_
  refine lv_iconst (v := 0) hx hb dL_run_1 (by decide) ?_
  refine lv_aload_n hx hb dL_run_2 rfl (lv_at hl 0 rfl) ?_
  refine lv_iload_n hx hb dL_run_3 rfl (lv_at hl 1 rfl) ?_
  refine kcX (ci := 3) (q0 := 0) (As := [.int x1]) (rest := [.int 0, .ref ao]) E.1 hM hX (cwV 1 hts gL_run_X3_run rfl rfl rfl hdX3_run ⟨Nat.le_of_ble_eq_true rfl, Nat.le_of_ble_eq_true rfl⟩) hKs hK hP hD hS hA hSt (outW cJ ao o) [] rfl rfl rfl rfl rfl rfl hl.1 (Nat.le_of_ble_eq_true rfl) dL_run_4 ⟨Nat.le_of_ble_eq_true rfl, Nat.le_of_ble_eq_true rfl⟩ (fun he ce q9 H locs hP hD hS hce hcv hcl => ?_) (fun he H locs hP hD hS => ?_)
  · have hL : L2 = L := hT he
    subst hL
    rcases hE with rfl | rfl | rfl
    · exact absurd rfl he
    · refine vx_catch (name := kXn 1) hown [] ⟨0, 9, 12, 13⟩ [] htab (fun z hz => by cases hz) (by decide) (by decide) qc0 (va_Nw.use rfl k11) hce hcv hcl ?_
      refine lv_astore_n (lv' := (3, .ref q9) :: [(0, .ref (aL 7 0)), (1, .int x1), (2, .ref ao)]) hx hb dL_run_12 rfl hl (by decide) rfl (fun ls hl => ?_)
      refine lv_iconst (v := 1) hx hb dL_run_13 (by decide) ?_
      exact krY hx hb hr hlk hP hD hS dL_run_14 (Nat.le_of_ble_eq_true rfl) (Nat.le_of_ble_eq_true rfl) (by decide) rfl
    · refine vx_catch (name := kXn 1) hown [] ⟨0, 9, 12, 13⟩ [] htab (fun z hz => by cases hz) (by decide) (by decide) qc0 (va_Nw.use rfl k11) hce hcv hcl ?_
      refine lv_astore_n (lv' := (3, .ref q9) :: [(0, .ref (aL 7 0)), (1, .int x1), (2, .ref ao)]) hx hb dL_run_12 rfl hl (by decide) rfl (fun ls hl => ?_)
      refine lv_iconst (v := 1) hx hb dL_run_13 (by decide) ?_
      exact krY hx hb hr hlk hP hD hS dL_run_14 (Nat.le_of_ble_eq_true rfl) (Nat.le_of_ble_eq_true rfl) (by decide) rfl
  · subst he
    refine lv_i2l (v := r.toInt64) hx hb dL_run_7 rfl ?_
    refine va_last hx hb hK hP hD hS 0 3 rfl rfl (by unfold vp_in; decide) dL_run_8 (fun H locs hP hD hS => ?_)
    have hP : va_P D vwCl (outW cJ ao (va_up o 0 r.toInt64) ++ (lsW cI cB cS aL L2 ++ [])) H := hP
    have hD : va_D A (outW cJ ao (va_up o 0 r.toInt64) ++ (lsW cI cB cS aL L2 ++ [])) := hD
    refine lv_goto (tgt := 15) hx hb dL_run_9 (by decide) ?_
    refine lv_iconst (v := 0) hx hb dL_run_15 (by decide) ?_
    exact krY hx hb hr hlk hP hD hS dL_run_16 (Nat.le_of_ble_eq_true rfl) (Nat.le_of_ble_eq_true rfl) (by decide) rfl

theorem hdL_status : yL_status.cls ≠ "java/lang/invoke/MethodHandle" ∧ yL_status.cls ≠ "java/lang/invoke/VarHandle" ∧ (parseMethodDescriptor yL_status.desc).map (fun d => d.parameters.length) = some 3 := by decide +kernel
set_option maxHeartbeats 4000000 in
set_option maxRecDepth 100000 in
theorem cw_status {l : Launch} {D : va_G} {cI cB cS cJ : ClassId} {K : State → Prop} (EW : kEW D cI cB cS cJ K) (aL : Nat → Nat → Nat) (L L2 : Nat → St) (ao : Nat) (o : Nat → Int64) (x1 : Int32) {ec r : Int32} (hM : kX l D K yX3_status wsX3_status 6 82 [.ref (aL 7 0), .int x1] (lsW cI cB cS aL L) ec r (lsW cI cB cS aL L2)) (hE : ec = 0 ∨ ec = 1 ∨ ec = 1) (hT : ec ≠ 0 → L2 = L) : kY l D K yL_status wsL_status 7 103 [.ref (aL 7 0), .int x1, .ref ao] (outW cJ ao o ++ (lsW cI cB cS aL L ++ [])) (kc 1 1 ec) (outW cJ ao (if ec = 0 then va_up o 0 r.toInt64 else o) ++ (lsW cI cB cS aL L2 ++ [])) := by
  have E := EW.1.1
  refine kY_of (own := RL) (cc := cL_status) (maxL := 4) (tys := kty cI cB cS cJ) (hh := [(0, 9, 12, 13)]) (fun U h => (E.2 U h).1) (by decide) rfl rfl (Nat.le_of_ble_eq_true rfl) ?_
  intro p e s m below meth c A ls hx hb hr hml hts hown hlk hKs hK hP hD hA hS hl hSt htab
  have hl : lv_has ls 4 [(0, .ref (aL 7 0)), (1, .int x1), (2, .ref ao)] := hl
  have hX : CallFix p m c cL_status 4 s _ wsL_status RL := ⟨hx, hb, hml, hown, hts⟩
  obtain ⟨-, ⟨k11, k22, k33, k44⟩, k21, k13⟩ := EW.2 s hKs
  have qc0 := hts (.classLink RL 13 "java/lang/IllegalArgumentException") (List.mem_of_getElem? (i := 1) rfl)
  refine lv_aload_n hx hb dL_status_0 rfl (lv_at hl 2 rfl) ?_
  refine lv_iconst (v := 0) hx hb dL_status_1 (by decide) ?_
  refine lv_aload_n hx hb dL_status_2 rfl (lv_at hl 0 rfl) ?_
  refine lv_iload_n hx hb dL_status_3 rfl (lv_at hl 1 rfl) ?_
  refine kcX (ci := 3) (q0 := 0) (As := [.int x1]) (rest := [.int 0, .ref ao]) E.1 hM hX (cwV 1 hts gL_status_X3_status rfl rfl rfl hdX3_status ⟨Nat.le_of_ble_eq_true rfl, Nat.le_of_ble_eq_true rfl⟩) hKs hK hP hD hS hA hSt (outW cJ ao o) [] rfl rfl rfl rfl rfl rfl hl.1 (Nat.le_of_ble_eq_true rfl) dL_status_4 ⟨Nat.le_of_ble_eq_true rfl, Nat.le_of_ble_eq_true rfl⟩ (fun he ce q9 H locs hP hD hS hce hcv hcl => ?_) (fun he H locs hP hD hS => ?_)
  · have hL : L2 = L := hT he
    subst hL
    rcases hE with rfl | rfl | rfl
    · exact absurd rfl he
    · refine vx_catch (name := kXn 1) hown [] ⟨0, 9, 12, 13⟩ [] htab (fun z hz => by cases hz) (by decide) (by decide) qc0 (va_Nw.use rfl k11) hce hcv hcl ?_
      refine lv_astore_n (lv' := (3, .ref q9) :: [(0, .ref (aL 7 0)), (1, .int x1), (2, .ref ao)]) hx hb dL_status_12 rfl hl (by decide) rfl (fun ls hl => ?_)
      refine lv_iconst (v := 1) hx hb dL_status_13 (by decide) ?_
      exact krY hx hb hr hlk hP hD hS dL_status_14 (Nat.le_of_ble_eq_true rfl) (Nat.le_of_ble_eq_true rfl) (by decide) rfl
    · refine vx_catch (name := kXn 1) hown [] ⟨0, 9, 12, 13⟩ [] htab (fun z hz => by cases hz) (by decide) (by decide) qc0 (va_Nw.use rfl k11) hce hcv hcl ?_
      refine lv_astore_n (lv' := (3, .ref q9) :: [(0, .ref (aL 7 0)), (1, .int x1), (2, .ref ao)]) hx hb dL_status_12 rfl hl (by decide) rfl (fun ls hl => ?_)
      refine lv_iconst (v := 1) hx hb dL_status_13 (by decide) ?_
      exact krY hx hb hr hlk hP hD hS dL_status_14 (Nat.le_of_ble_eq_true rfl) (Nat.le_of_ble_eq_true rfl) (by decide) rfl
  · subst he
    refine lv_i2l (v := r.toInt64) hx hb dL_status_7 rfl ?_
    refine va_last hx hb hK hP hD hS 0 3 rfl rfl (by unfold vp_in; decide) dL_status_8 (fun H locs hP hD hS => ?_)
    have hP : va_P D vwCl (outW cJ ao (va_up o 0 r.toInt64) ++ (lsW cI cB cS aL L2 ++ [])) H := hP
    have hD : va_D A (outW cJ ao (va_up o 0 r.toInt64) ++ (lsW cI cB cS aL L2 ++ [])) := hD
    refine lv_goto (tgt := 15) hx hb dL_status_9 (by decide) ?_
    refine lv_iconst (v := 0) hx hb dL_status_15 (by decide) ?_
    exact krY hx hb hr hlk hP hD hS dL_status_16 (Nat.le_of_ble_eq_true rfl) (Nat.le_of_ble_eq_true rfl) (by decide) rfl

theorem hdL_item : yL_item.cls ≠ "java/lang/invoke/MethodHandle" ∧ yL_item.cls ≠ "java/lang/invoke/VarHandle" ∧ (parseMethodDescriptor yL_item.desc).map (fun d => d.parameters.length) = some 4 := by decide +kernel
set_option maxHeartbeats 4000000 in
set_option maxRecDepth 100000 in
theorem cw_item {l : Launch} {D : va_G} {cI cB cS cJ : ClassId} {K : State → Prop} (EW : kEW D cI cB cS cJ K) (aL : Nat → Nat → Nat) (L L2 : Nat → St) (ao : Nat) (o : Nat → Int64) (x1 x2 : Int32) {ec r : Int32} (hM : kX l D K yX3_item wsX3_item 6 82 [.ref (aL 7 0), .int x1, .int x2] (lsW cI cB cS aL L) ec r (lsW cI cB cS aL L2)) (hE : ec = 0 ∨ ec = 3 ∨ ec = 1) (hT : ec ≠ 0 → L2 = L) : kY l D K yL_item wsL_item 7 105 [.ref (aL 7 0), .int x1, .int x2, .ref ao] (outW cJ ao o ++ (lsW cI cB cS aL L ++ [])) (kc 3 1 ec) (outW cJ ao (if ec = 0 then va_up o 0 r.toInt64 else o) ++ (lsW cI cB cS aL L2 ++ [])) := by
  have E := EW.1.1
  refine kY_of (own := RL) (cc := cL_item) (maxL := 5) (tys := kty cI cB cS cJ) (hh := [(0, 10, 13, 41), (0, 10, 17, 13)]) (fun U h => (E.2 U h).1) (by decide) rfl rfl (Nat.le_of_ble_eq_true rfl) ?_
  intro p e s m below meth c A ls hx hb hr hml hts hown hlk hKs hK hP hD hA hS hl hSt htab
  have hl : lv_has ls 5 [(0, .ref (aL 7 0)), (1, .int x1), (2, .int x2), (3, .ref ao)] := hl
  have hX : CallFix p m c cL_item 5 s _ wsL_item RL := ⟨hx, hb, hml, hown, hts⟩
  obtain ⟨-, ⟨k11, k22, k33, k44⟩, k21, k13⟩ := EW.2 s hKs
  have qc0 := hts (.classLink RL 41 "java/util/NoSuchElementException") (List.mem_of_getElem? (i := 1) rfl)
  have qc1 := hts (.classLink RL 13 "java/lang/IllegalArgumentException") (List.mem_of_getElem? (i := 2) rfl)
  refine lv_aload_n hx hb dL_item_0 rfl (lv_at hl 3 rfl) ?_
  refine lv_iconst (v := 0) hx hb dL_item_1 (by decide) ?_
  refine lv_aload_n hx hb dL_item_2 rfl (lv_at hl 0 rfl) ?_
  refine lv_iload_n hx hb dL_item_3 rfl (lv_at hl 1 rfl) ?_
  refine lv_iload_n hx hb dL_item_4 rfl (lv_at hl 2 rfl) ?_
  refine kcX (ci := 3) (q0 := 0) (As := [.int x1, .int x2]) (rest := [.int 0, .ref ao]) E.1 hM hX (cwV 2 hts gL_item_X3_item rfl rfl rfl hdX3_item ⟨Nat.le_of_ble_eq_true rfl, Nat.le_of_ble_eq_true rfl⟩) hKs hK hP hD hS hA hSt (outW cJ ao o) [] rfl rfl rfl rfl rfl rfl hl.1 (Nat.le_of_ble_eq_true rfl) dL_item_5 ⟨Nat.le_of_ble_eq_true rfl, Nat.le_of_ble_eq_true rfl⟩ (fun he ce q9 H locs hP hD hS hce hcv hcl => ?_) (fun he H locs hP hD hS => ?_)
  · have hL : L2 = L := hT he
    subst hL
    rcases hE with rfl | rfl | rfl
    · exact absurd rfl he
    · refine vx_catch (name := kXn 3) hown [] ⟨0, 10, 13, 41⟩ [⟨0, 10, 17, 13⟩] htab (fun z hz => by cases hz) (by decide) (by decide) qc0 (va_Nw.use rfl k33) hce hcv hcl ?_
      refine lv_astore (lv' := (4, .ref q9) :: [(0, .ref (aL 7 0)), (1, .int x1), (2, .int x2), (3, .ref ao)]) hx hb dL_item_13 hl (by decide) rfl (fun ls hl => ?_)
      refine lv_iconst (v := 1) hx hb dL_item_15 (by decide) ?_
      exact krY hx hb hr hlk hP hD hS dL_item_16 (Nat.le_of_ble_eq_true rfl) (Nat.le_of_ble_eq_true rfl) (by decide) rfl
    · refine vx_catch (name := kXn 1) hown [⟨0, 10, 13, 41⟩] ⟨0, 10, 17, 13⟩ [] htab (fun z hz => Or.inr (by rw [List.mem_singleton.mp hz]; exact ⟨(by decide), _, qc0, k13⟩)) (by decide) (by decide) qc1 (va_Nw.use rfl k11) hce hcv hcl ?_
      refine lv_astore (lv' := (4, .ref q9) :: [(0, .ref (aL 7 0)), (1, .int x1), (2, .int x2), (3, .ref ao)]) hx hb dL_item_17 hl (by decide) rfl (fun ls hl => ?_)
      refine lv_iconst (v := 2) hx hb dL_item_19 (by decide) ?_
      exact krY hx hb hr hlk hP hD hS dL_item_20 (Nat.le_of_ble_eq_true rfl) (Nat.le_of_ble_eq_true rfl) (by decide) rfl
  · subst he
    refine lv_i2l (v := r.toInt64) hx hb dL_item_8 rfl ?_
    refine va_last hx hb hK hP hD hS 0 3 rfl rfl (by unfold vp_in; decide) dL_item_9 (fun H locs hP hD hS => ?_)
    have hP : va_P D vwCl (outW cJ ao (va_up o 0 r.toInt64) ++ (lsW cI cB cS aL L2 ++ [])) H := hP
    have hD : va_D A (outW cJ ao (va_up o 0 r.toInt64) ++ (lsW cI cB cS aL L2 ++ [])) := hD
    refine lv_goto (tgt := 21) hx hb dL_item_10 (by decide) ?_
    refine lv_iconst (v := 0) hx hb dL_item_21 (by decide) ?_
    exact krY hx hb hr hlk hP hD hS dL_item_22 (Nat.le_of_ble_eq_true rfl) (Nat.le_of_ble_eq_true rfl) (by decide) rfl

theorem hdL_record : yL_record.cls ≠ "java/lang/invoke/MethodHandle" ∧ yL_record.cls ≠ "java/lang/invoke/VarHandle" ∧ (parseMethodDescriptor yL_record.desc).map (fun d => d.parameters.length) = some 4 := by decide +kernel
set_option maxHeartbeats 4000000 in
set_option maxRecDepth 100000 in
theorem cw_record {l : Launch} {D : va_G} {cI cB cS cJ : ClassId} {K : State → Prop} (EW : kEW D cI cB cS cJ K) (aL : Nat → Nat → Nat) (L L2 : Nat → St) (ao : Nat) (o : Nat → Int64) (x1 x2 : Int32) {ec r : Int32} (hM : kX l D K yX3_record wsX3_record 6 82 [.ref (aL 7 0), .int x1, .int x2] (lsW cI cB cS aL L) ec r (lsW cI cB cS aL L2)) (hE : ec = 0 ∨ ec = 3 ∨ ec = 1) (hT : ec ≠ 0 → L2 = L) : kY l D K yL_record wsL_record 7 105 [.ref (aL 7 0), .int x1, .int x2, .ref ao] (outW cJ ao o ++ (lsW cI cB cS aL L ++ [])) (kc 3 1 ec) (outW cJ ao (if ec = 0 then va_up o 0 r.toInt64 else o) ++ (lsW cI cB cS aL L2 ++ [])) := by
  have E := EW.1.1
  refine kY_of (own := RL) (cc := cL_record) (maxL := 5) (tys := kty cI cB cS cJ) (hh := [(0, 10, 13, 41), (0, 10, 17, 13)]) (fun U h => (E.2 U h).1) (by decide) rfl rfl (Nat.le_of_ble_eq_true rfl) ?_
  intro p e s m below meth c A ls hx hb hr hml hts hown hlk hKs hK hP hD hA hS hl hSt htab
  have hl : lv_has ls 5 [(0, .ref (aL 7 0)), (1, .int x1), (2, .int x2), (3, .ref ao)] := hl
  have hX : CallFix p m c cL_record 5 s _ wsL_record RL := ⟨hx, hb, hml, hown, hts⟩
  obtain ⟨-, ⟨k11, k22, k33, k44⟩, k21, k13⟩ := EW.2 s hKs
  have qc0 := hts (.classLink RL 41 "java/util/NoSuchElementException") (List.mem_of_getElem? (i := 1) rfl)
  have qc1 := hts (.classLink RL 13 "java/lang/IllegalArgumentException") (List.mem_of_getElem? (i := 2) rfl)
  refine lv_aload_n hx hb dL_record_0 rfl (lv_at hl 3 rfl) ?_
  refine lv_iconst (v := 0) hx hb dL_record_1 (by decide) ?_
  refine lv_aload_n hx hb dL_record_2 rfl (lv_at hl 0 rfl) ?_
  refine lv_iload_n hx hb dL_record_3 rfl (lv_at hl 1 rfl) ?_
  refine lv_iload_n hx hb dL_record_4 rfl (lv_at hl 2 rfl) ?_
  refine kcX (ci := 3) (q0 := 0) (As := [.int x1, .int x2]) (rest := [.int 0, .ref ao]) E.1 hM hX (cwV 2 hts gL_record_X3_record rfl rfl rfl hdX3_record ⟨Nat.le_of_ble_eq_true rfl, Nat.le_of_ble_eq_true rfl⟩) hKs hK hP hD hS hA hSt (outW cJ ao o) [] rfl rfl rfl rfl rfl rfl hl.1 (Nat.le_of_ble_eq_true rfl) dL_record_5 ⟨Nat.le_of_ble_eq_true rfl, Nat.le_of_ble_eq_true rfl⟩ (fun he ce q9 H locs hP hD hS hce hcv hcl => ?_) (fun he H locs hP hD hS => ?_)
  · have hL : L2 = L := hT he
    subst hL
    rcases hE with rfl | rfl | rfl
    · exact absurd rfl he
    · refine vx_catch (name := kXn 3) hown [] ⟨0, 10, 13, 41⟩ [⟨0, 10, 17, 13⟩] htab (fun z hz => by cases hz) (by decide) (by decide) qc0 (va_Nw.use rfl k33) hce hcv hcl ?_
      refine lv_astore (lv' := (4, .ref q9) :: [(0, .ref (aL 7 0)), (1, .int x1), (2, .int x2), (3, .ref ao)]) hx hb dL_record_13 hl (by decide) rfl (fun ls hl => ?_)
      refine lv_iconst (v := 1) hx hb dL_record_15 (by decide) ?_
      exact krY hx hb hr hlk hP hD hS dL_record_16 (Nat.le_of_ble_eq_true rfl) (Nat.le_of_ble_eq_true rfl) (by decide) rfl
    · refine vx_catch (name := kXn 1) hown [⟨0, 10, 13, 41⟩] ⟨0, 10, 17, 13⟩ [] htab (fun z hz => Or.inr (by rw [List.mem_singleton.mp hz]; exact ⟨(by decide), _, qc0, k13⟩)) (by decide) (by decide) qc1 (va_Nw.use rfl k11) hce hcv hcl ?_
      refine lv_astore (lv' := (4, .ref q9) :: [(0, .ref (aL 7 0)), (1, .int x1), (2, .int x2), (3, .ref ao)]) hx hb dL_record_17 hl (by decide) rfl (fun ls hl => ?_)
      refine lv_iconst (v := 2) hx hb dL_record_19 (by decide) ?_
      exact krY hx hb hr hlk hP hD hS dL_record_20 (Nat.le_of_ble_eq_true rfl) (Nat.le_of_ble_eq_true rfl) (by decide) rfl
  · subst he
    refine lv_i2l (v := r.toInt64) hx hb dL_record_8 rfl ?_
    refine va_last hx hb hK hP hD hS 0 3 rfl rfl (by unfold vp_in; decide) dL_record_9 (fun H locs hP hD hS => ?_)
    have hP : va_P D vwCl (outW cJ ao (va_up o 0 r.toInt64) ++ (lsW cI cB cS aL L2 ++ [])) H := hP
    have hD : va_D A (outW cJ ao (va_up o 0 r.toInt64) ++ (lsW cI cB cS aL L2 ++ [])) := hD
    refine lv_goto (tgt := 21) hx hb dL_record_10 (by decide) ?_
    refine lv_iconst (v := 0) hx hb dL_record_21 (by decide) ?_
    exact krY hx hb hr hlk hP hD hS dL_record_22 (Nat.le_of_ble_eq_true rfl) (Nat.le_of_ble_eq_true rfl) (by decide) rfl

theorem hdL_numberAt : yL_numberAt.cls ≠ "java/lang/invoke/MethodHandle" ∧ yL_numberAt.cls ≠ "java/lang/invoke/VarHandle" ∧ (parseMethodDescriptor yL_numberAt.desc).map (fun d => d.parameters.length) = some 4 := by decide +kernel
set_option maxHeartbeats 4000000 in
set_option maxRecDepth 100000 in
theorem cw_numberAt {l : Launch} {D : va_G} {cI cB cS cJ : ClassId} {K : State → Prop} (EW : kEW D cI cB cS cJ K) (aL : Nat → Nat → Nat) (L L2 : Nat → St) (ao : Nat) (o : Nat → Int64) (x1 x2 : Int32) {ec r : Int32} (hM : kX l D K yX3_numberAt wsX3_numberAt 6 82 [.ref (aL 7 0), .int x1, .int x2] (lsW cI cB cS aL L) ec r (lsW cI cB cS aL L2)) (hE : ec = 0 ∨ ec = 4 ∨ ec = 4) (hT : ec ≠ 0 → L2 = L) : kY l D K yL_numberAt wsL_numberAt 7 105 [.ref (aL 7 0), .int x1, .int x2, .ref ao] (outW cJ ao o ++ (lsW cI cB cS aL L ++ [])) (kc 4 4 ec) (outW cJ ao (if ec = 0 then va_up o 0 r.toInt64 else o) ++ (lsW cI cB cS aL L2 ++ [])) := by
  have E := EW.1.1
  refine kY_of (own := RL) (cc := cL_numberAt) (maxL := 5) (tys := kty cI cB cS cJ) (hh := [(0, 10, 13, 62)]) (fun U h => (E.2 U h).1) (by decide) rfl rfl (Nat.le_of_ble_eq_true rfl) ?_
  intro p e s m below meth c A ls hx hb hr hml hts hown hlk hKs hK hP hD hA hS hl hSt htab
  have hl : lv_has ls 5 [(0, .ref (aL 7 0)), (1, .int x1), (2, .int x2), (3, .ref ao)] := hl
  have hX : CallFix p m c cL_numberAt 5 s _ wsL_numberAt RL := ⟨hx, hb, hml, hown, hts⟩
  obtain ⟨-, ⟨k11, k22, k33, k44⟩, k21, k13⟩ := EW.2 s hKs
  have qc0 := hts (.classLink RL 62 "java/lang/IndexOutOfBoundsException") (List.mem_of_getElem? (i := 1) rfl)
  refine lv_aload_n hx hb dL_numberAt_0 rfl (lv_at hl 3 rfl) ?_
  refine lv_iconst (v := 0) hx hb dL_numberAt_1 (by decide) ?_
  refine lv_aload_n hx hb dL_numberAt_2 rfl (lv_at hl 0 rfl) ?_
  refine lv_iload_n hx hb dL_numberAt_3 rfl (lv_at hl 1 rfl) ?_
  refine lv_iload_n hx hb dL_numberAt_4 rfl (lv_at hl 2 rfl) ?_
  refine kcX (ci := 3) (q0 := 0) (As := [.int x1, .int x2]) (rest := [.int 0, .ref ao]) E.1 hM hX (cwV 2 hts gL_numberAt_X3_numberAt rfl rfl rfl hdX3_numberAt ⟨Nat.le_of_ble_eq_true rfl, Nat.le_of_ble_eq_true rfl⟩) hKs hK hP hD hS hA hSt (outW cJ ao o) [] rfl rfl rfl rfl rfl rfl hl.1 (Nat.le_of_ble_eq_true rfl) dL_numberAt_5 ⟨Nat.le_of_ble_eq_true rfl, Nat.le_of_ble_eq_true rfl⟩ (fun he ce q9 H locs hP hD hS hce hcv hcl => ?_) (fun he H locs hP hD hS => ?_)
  · have hL : L2 = L := hT he
    subst hL
    rcases hE with rfl | rfl | rfl
    · exact absurd rfl he
    · refine vx_catch (name := kXn 4) hown [] ⟨0, 10, 13, 62⟩ [] htab (fun z hz => by cases hz) (by decide) (by decide) qc0 (va_Nw.use rfl k44) hce hcv hcl ?_
      refine lv_astore (lv' := (4, .ref q9) :: [(0, .ref (aL 7 0)), (1, .int x1), (2, .int x2), (3, .ref ao)]) hx hb dL_numberAt_13 hl (by decide) rfl (fun ls hl => ?_)
      refine lv_iconst (v := 1) hx hb dL_numberAt_15 (by decide) ?_
      exact krY hx hb hr hlk hP hD hS dL_numberAt_16 (Nat.le_of_ble_eq_true rfl) (Nat.le_of_ble_eq_true rfl) (by decide) rfl
    · refine vx_catch (name := kXn 4) hown [] ⟨0, 10, 13, 62⟩ [] htab (fun z hz => by cases hz) (by decide) (by decide) qc0 (va_Nw.use rfl k44) hce hcv hcl ?_
      refine lv_astore (lv' := (4, .ref q9) :: [(0, .ref (aL 7 0)), (1, .int x1), (2, .int x2), (3, .ref ao)]) hx hb dL_numberAt_13 hl (by decide) rfl (fun ls hl => ?_)
      refine lv_iconst (v := 1) hx hb dL_numberAt_15 (by decide) ?_
      exact krY hx hb hr hlk hP hD hS dL_numberAt_16 (Nat.le_of_ble_eq_true rfl) (Nat.le_of_ble_eq_true rfl) (by decide) rfl
  · subst he
    refine lv_i2l (v := r.toInt64) hx hb dL_numberAt_8 rfl ?_
    refine va_last hx hb hK hP hD hS 0 3 rfl rfl (by unfold vp_in; decide) dL_numberAt_9 (fun H locs hP hD hS => ?_)
    have hP : va_P D vwCl (outW cJ ao (va_up o 0 r.toInt64) ++ (lsW cI cB cS aL L2 ++ [])) H := hP
    have hD : va_D A (outW cJ ao (va_up o 0 r.toInt64) ++ (lsW cI cB cS aL L2 ++ [])) := hD
    refine lv_goto (tgt := 17) hx hb dL_numberAt_10 (by decide) ?_
    refine lv_iconst (v := 0) hx hb dL_numberAt_17 (by decide) ?_
    exact krY hx hb hr hlk hP hD hS dL_numberAt_18 (Nat.le_of_ble_eq_true rfl) (Nat.le_of_ble_eq_true rfl) (by decide) rfl

theorem hdL_counter : yL_counter.cls ≠ "java/lang/invoke/MethodHandle" ∧ yL_counter.cls ≠ "java/lang/invoke/VarHandle" ∧ (parseMethodDescriptor yL_counter.desc).map (fun d => d.parameters.length) = some 3 := by decide +kernel
set_option maxHeartbeats 4000000 in
set_option maxRecDepth 100000 in
theorem cw_counter {l : Launch} {D : va_G} {cI cB cS cJ : ClassId} {K : State → Prop} (EW : kEW D cI cB cS cJ K) (aL : Nat → Nat → Nat) (L L2 : Nat → St) (ao : Nat) (o : Nat → Int64) (x1 : Int32) {ec r : Int32} (hM : kX l D K yX3_counter wsX3_counter 6 82 [.ref (aL 7 0), .int x1] (lsW cI cB cS aL L) ec r (lsW cI cB cS aL L2)) (hE : ec = 0 ∨ ec = 1 ∨ ec = 1) (hT : ec ≠ 0 → L2 = L) : kY l D K yL_counter wsL_counter 7 103 [.ref (aL 7 0), .int x1, .ref ao] (outW cJ ao o ++ (lsW cI cB cS aL L ++ [])) (kc 1 1 ec) (outW cJ ao (if ec = 0 then va_up o 0 r.toInt64 else o) ++ (lsW cI cB cS aL L2 ++ [])) := by
  have E := EW.1.1
  refine kY_of (own := RL) (cc := cL_counter) (maxL := 4) (tys := kty cI cB cS cJ) (hh := [(0, 9, 12, 13)]) (fun U h => (E.2 U h).1) (by decide) rfl rfl (Nat.le_of_ble_eq_true rfl) ?_
  intro p e s m below meth c A ls hx hb hr hml hts hown hlk hKs hK hP hD hA hS hl hSt htab
  have hl : lv_has ls 4 [(0, .ref (aL 7 0)), (1, .int x1), (2, .ref ao)] := hl
  have hX : CallFix p m c cL_counter 4 s _ wsL_counter RL := ⟨hx, hb, hml, hown, hts⟩
  obtain ⟨-, ⟨k11, k22, k33, k44⟩, k21, k13⟩ := EW.2 s hKs
  have qc0 := hts (.classLink RL 13 "java/lang/IllegalArgumentException") (List.mem_of_getElem? (i := 1) rfl)
  refine lv_aload_n hx hb dL_counter_0 rfl (lv_at hl 2 rfl) ?_
  refine lv_iconst (v := 0) hx hb dL_counter_1 (by decide) ?_
  refine lv_aload_n hx hb dL_counter_2 rfl (lv_at hl 0 rfl) ?_
  refine lv_iload_n hx hb dL_counter_3 rfl (lv_at hl 1 rfl) ?_
  refine kcX (ci := 3) (q0 := 0) (As := [.int x1]) (rest := [.int 0, .ref ao]) E.1 hM hX (cwV 1 hts gL_counter_X3_counter rfl rfl rfl hdX3_counter ⟨Nat.le_of_ble_eq_true rfl, Nat.le_of_ble_eq_true rfl⟩) hKs hK hP hD hS hA hSt (outW cJ ao o) [] rfl rfl rfl rfl rfl rfl hl.1 (Nat.le_of_ble_eq_true rfl) dL_counter_4 ⟨Nat.le_of_ble_eq_true rfl, Nat.le_of_ble_eq_true rfl⟩ (fun he ce q9 H locs hP hD hS hce hcv hcl => ?_) (fun he H locs hP hD hS => ?_)
  · have hL : L2 = L := hT he
    subst hL
    rcases hE with rfl | rfl | rfl
    · exact absurd rfl he
    · refine vx_catch (name := kXn 1) hown [] ⟨0, 9, 12, 13⟩ [] htab (fun z hz => by cases hz) (by decide) (by decide) qc0 (va_Nw.use rfl k11) hce hcv hcl ?_
      refine lv_astore_n (lv' := (3, .ref q9) :: [(0, .ref (aL 7 0)), (1, .int x1), (2, .ref ao)]) hx hb dL_counter_12 rfl hl (by decide) rfl (fun ls hl => ?_)
      refine lv_iconst (v := 1) hx hb dL_counter_13 (by decide) ?_
      exact krY hx hb hr hlk hP hD hS dL_counter_14 (Nat.le_of_ble_eq_true rfl) (Nat.le_of_ble_eq_true rfl) (by decide) rfl
    · refine vx_catch (name := kXn 1) hown [] ⟨0, 9, 12, 13⟩ [] htab (fun z hz => by cases hz) (by decide) (by decide) qc0 (va_Nw.use rfl k11) hce hcv hcl ?_
      refine lv_astore_n (lv' := (3, .ref q9) :: [(0, .ref (aL 7 0)), (1, .int x1), (2, .ref ao)]) hx hb dL_counter_12 rfl hl (by decide) rfl (fun ls hl => ?_)
      refine lv_iconst (v := 1) hx hb dL_counter_13 (by decide) ?_
      exact krY hx hb hr hlk hP hD hS dL_counter_14 (Nat.le_of_ble_eq_true rfl) (Nat.le_of_ble_eq_true rfl) (by decide) rfl
  · subst he
    refine lv_i2l (v := r.toInt64) hx hb dL_counter_7 rfl ?_
    refine va_last hx hb hK hP hD hS 0 3 rfl rfl (by unfold vp_in; decide) dL_counter_8 (fun H locs hP hD hS => ?_)
    have hP : va_P D vwCl (outW cJ ao (va_up o 0 r.toInt64) ++ (lsW cI cB cS aL L2 ++ [])) H := hP
    have hD : va_D A (outW cJ ao (va_up o 0 r.toInt64) ++ (lsW cI cB cS aL L2 ++ [])) := hD
    refine lv_goto (tgt := 15) hx hb dL_counter_9 (by decide) ?_
    refine lv_iconst (v := 0) hx hb dL_counter_15 (by decide) ?_
    exact krY hx hb hr hlk hP hD hS dL_counter_16 (Nat.le_of_ble_eq_true rfl) (Nat.le_of_ble_eq_true rfl) (by decide) rfl

theorem hdL_spare : yL_spare.cls ≠ "java/lang/invoke/MethodHandle" ∧ yL_spare.cls ≠ "java/lang/invoke/VarHandle" ∧ (parseMethodDescriptor yL_spare.desc).map (fun d => d.parameters.length) = some 3 := by decide +kernel
set_option maxHeartbeats 4000000 in
set_option maxRecDepth 100000 in
theorem cw_spare {l : Launch} {D : va_G} {cI cB cS cJ : ClassId} {K : State → Prop} (EW : kEW D cI cB cS cJ K) (aL : Nat → Nat → Nat) (L L2 : Nat → St) (ao : Nat) (o : Nat → Int64) (x1 : Int32) {ec r : Int32} (hM : kX l D K yX3_spare wsX3_spare 6 82 [.ref (aL 7 0), .int x1] (lsW cI cB cS aL L) ec r (lsW cI cB cS aL L2)) (hE : ec = 0 ∨ ec = 1 ∨ ec = 1) (hT : ec ≠ 0 → L2 = L) : kY l D K yL_spare wsL_spare 7 103 [.ref (aL 7 0), .int x1, .ref ao] (outW cJ ao o ++ (lsW cI cB cS aL L ++ [])) (kc 1 1 ec) (outW cJ ao (if ec = 0 then va_up o 0 r.toInt64 else o) ++ (lsW cI cB cS aL L2 ++ [])) := by
  have E := EW.1.1
  refine kY_of (own := RL) (cc := cL_spare) (maxL := 4) (tys := kty cI cB cS cJ) (hh := [(0, 9, 12, 13)]) (fun U h => (E.2 U h).1) (by decide) rfl rfl (Nat.le_of_ble_eq_true rfl) ?_
  intro p e s m below meth c A ls hx hb hr hml hts hown hlk hKs hK hP hD hA hS hl hSt htab
  have hl : lv_has ls 4 [(0, .ref (aL 7 0)), (1, .int x1), (2, .ref ao)] := hl
  have hX : CallFix p m c cL_spare 4 s _ wsL_spare RL := ⟨hx, hb, hml, hown, hts⟩
  obtain ⟨-, ⟨k11, k22, k33, k44⟩, k21, k13⟩ := EW.2 s hKs
  have qc0 := hts (.classLink RL 13 "java/lang/IllegalArgumentException") (List.mem_of_getElem? (i := 1) rfl)
  refine lv_aload_n hx hb dL_spare_0 rfl (lv_at hl 2 rfl) ?_
  refine lv_iconst (v := 0) hx hb dL_spare_1 (by decide) ?_
  refine lv_aload_n hx hb dL_spare_2 rfl (lv_at hl 0 rfl) ?_
  refine lv_iload_n hx hb dL_spare_3 rfl (lv_at hl 1 rfl) ?_
  refine kcX (ci := 3) (q0 := 0) (As := [.int x1]) (rest := [.int 0, .ref ao]) E.1 hM hX (cwV 1 hts gL_spare_X3_spare rfl rfl rfl hdX3_spare ⟨Nat.le_of_ble_eq_true rfl, Nat.le_of_ble_eq_true rfl⟩) hKs hK hP hD hS hA hSt (outW cJ ao o) [] rfl rfl rfl rfl rfl rfl hl.1 (Nat.le_of_ble_eq_true rfl) dL_spare_4 ⟨Nat.le_of_ble_eq_true rfl, Nat.le_of_ble_eq_true rfl⟩ (fun he ce q9 H locs hP hD hS hce hcv hcl => ?_) (fun he H locs hP hD hS => ?_)
  · have hL : L2 = L := hT he
    subst hL
    rcases hE with rfl | rfl | rfl
    · exact absurd rfl he
    · refine vx_catch (name := kXn 1) hown [] ⟨0, 9, 12, 13⟩ [] htab (fun z hz => by cases hz) (by decide) (by decide) qc0 (va_Nw.use rfl k11) hce hcv hcl ?_
      refine lv_astore_n (lv' := (3, .ref q9) :: [(0, .ref (aL 7 0)), (1, .int x1), (2, .ref ao)]) hx hb dL_spare_12 rfl hl (by decide) rfl (fun ls hl => ?_)
      refine lv_iconst (v := 1) hx hb dL_spare_13 (by decide) ?_
      exact krY hx hb hr hlk hP hD hS dL_spare_14 (Nat.le_of_ble_eq_true rfl) (Nat.le_of_ble_eq_true rfl) (by decide) rfl
    · refine vx_catch (name := kXn 1) hown [] ⟨0, 9, 12, 13⟩ [] htab (fun z hz => by cases hz) (by decide) (by decide) qc0 (va_Nw.use rfl k11) hce hcv hcl ?_
      refine lv_astore_n (lv' := (3, .ref q9) :: [(0, .ref (aL 7 0)), (1, .int x1), (2, .ref ao)]) hx hb dL_spare_12 rfl hl (by decide) rfl (fun ls hl => ?_)
      refine lv_iconst (v := 1) hx hb dL_spare_13 (by decide) ?_
      exact krY hx hb hr hlk hP hD hS dL_spare_14 (Nat.le_of_ble_eq_true rfl) (Nat.le_of_ble_eq_true rfl) (by decide) rfl
  · subst he
    refine lv_i2l (v := r.toInt64) hx hb dL_spare_7 rfl ?_
    refine va_last hx hb hK hP hD hS 0 3 rfl rfl (by unfold vp_in; decide) dL_spare_8 (fun H locs hP hD hS => ?_)
    have hP : va_P D vwCl (outW cJ ao (va_up o 0 r.toInt64) ++ (lsW cI cB cS aL L2 ++ [])) H := hP
    have hD : va_D A (outW cJ ao (va_up o 0 r.toInt64) ++ (lsW cI cB cS aL L2 ++ [])) := hD
    refine lv_goto (tgt := 15) hx hb dL_spare_9 (by decide) ?_
    refine lv_iconst (v := 0) hx hb dL_spare_15 (by decide) ?_
    exact krY hx hb hr hlk hP hD hS dL_spare_16 (Nat.le_of_ble_eq_true rfl) (Nat.le_of_ble_eq_true rfl) (by decide) rfl

theorem hdL_fate : yL_fate.cls ≠ "java/lang/invoke/MethodHandle" ∧ yL_fate.cls ≠ "java/lang/invoke/VarHandle" ∧ (parseMethodDescriptor yL_fate.desc).map (fun d => d.parameters.length) = some 3 := by decide +kernel
set_option maxHeartbeats 4000000 in
set_option maxRecDepth 100000 in
theorem cw_fate {l : Launch} {D : va_G} {cI cB cS cJ : ClassId} {K : State → Prop} (EW : kEW D cI cB cS cJ K) (aL : Nat → Nat → Nat) (L L2 : Nat → St) (ao : Nat) (o : Nat → Int64) (x1 : Int32) {ec r : Int32} (hM : kX l D K yX3_fate wsX3_fate 6 140 [.ref (aL 7 0), .int x1] (lsW cI cB cS aL L) ec r (lsW cI cB cS aL L2)) (hE : ec = 0 ∨ ec = 3 ∨ ec = 3) (hT : ec ≠ 0 → L2 = L) : kY l D K yL_fate wsL_fate 7 162 [.ref (aL 7 0), .int x1, .ref ao] (outW cJ ao o ++ (lsW cI cB cS aL L ++ [])) (kc 3 3 ec) (outW cJ ao (if ec = 0 then va_up o 0 r.toInt64 else o) ++ (lsW cI cB cS aL L2 ++ [])) := by
  have E := EW.1.1
  refine kY_of (own := RL) (cc := cL_fate) (maxL := 4) (tys := kty cI cB cS cJ) (hh := [(0, 9, 12, 41)]) (fun U h => (E.2 U h).1) (by decide) rfl rfl (Nat.le_of_ble_eq_true rfl) ?_
  intro p e s m below meth c A ls hx hb hr hml hts hown hlk hKs hK hP hD hA hS hl hSt htab
  have hl : lv_has ls 4 [(0, .ref (aL 7 0)), (1, .int x1), (2, .ref ao)] := hl
  have hX : CallFix p m c cL_fate 4 s _ wsL_fate RL := ⟨hx, hb, hml, hown, hts⟩
  obtain ⟨-, ⟨k11, k22, k33, k44⟩, k21, k13⟩ := EW.2 s hKs
  have qc0 := hts (.classLink RL 41 "java/util/NoSuchElementException") (List.mem_of_getElem? (i := 1) rfl)
  refine lv_aload_n hx hb dL_fate_0 rfl (lv_at hl 2 rfl) ?_
  refine lv_iconst (v := 0) hx hb dL_fate_1 (by decide) ?_
  refine lv_aload_n hx hb dL_fate_2 rfl (lv_at hl 0 rfl) ?_
  refine lv_iload_n hx hb dL_fate_3 rfl (lv_at hl 1 rfl) ?_
  refine kcX (ci := 3) (q0 := 0) (As := [.int x1]) (rest := [.int 0, .ref ao]) E.1 hM hX (cwV 1 hts gL_fate_X3_fate rfl rfl rfl hdX3_fate ⟨Nat.le_of_ble_eq_true rfl, Nat.le_of_ble_eq_true rfl⟩) hKs hK hP hD hS hA hSt (outW cJ ao o) [] rfl rfl rfl rfl rfl rfl hl.1 (Nat.le_of_ble_eq_true rfl) dL_fate_4 ⟨Nat.le_of_ble_eq_true rfl, Nat.le_of_ble_eq_true rfl⟩ (fun he ce q9 H locs hP hD hS hce hcv hcl => ?_) (fun he H locs hP hD hS => ?_)
  · have hL : L2 = L := hT he
    subst hL
    rcases hE with rfl | rfl | rfl
    · exact absurd rfl he
    · refine vx_catch (name := kXn 3) hown [] ⟨0, 9, 12, 41⟩ [] htab (fun z hz => by cases hz) (by decide) (by decide) qc0 (va_Nw.use rfl k33) hce hcv hcl ?_
      refine lv_astore_n (lv' := (3, .ref q9) :: [(0, .ref (aL 7 0)), (1, .int x1), (2, .ref ao)]) hx hb dL_fate_12 rfl hl (by decide) rfl (fun ls hl => ?_)
      refine lv_iconst (v := 1) hx hb dL_fate_13 (by decide) ?_
      exact krY hx hb hr hlk hP hD hS dL_fate_14 (Nat.le_of_ble_eq_true rfl) (Nat.le_of_ble_eq_true rfl) (by decide) rfl
    · refine vx_catch (name := kXn 3) hown [] ⟨0, 9, 12, 41⟩ [] htab (fun z hz => by cases hz) (by decide) (by decide) qc0 (va_Nw.use rfl k33) hce hcv hcl ?_
      refine lv_astore_n (lv' := (3, .ref q9) :: [(0, .ref (aL 7 0)), (1, .int x1), (2, .ref ao)]) hx hb dL_fate_12 rfl hl (by decide) rfl (fun ls hl => ?_)
      refine lv_iconst (v := 1) hx hb dL_fate_13 (by decide) ?_
      exact krY hx hb hr hlk hP hD hS dL_fate_14 (Nat.le_of_ble_eq_true rfl) (Nat.le_of_ble_eq_true rfl) (by decide) rfl
  · subst he
    refine lv_i2l (v := r.toInt64) hx hb dL_fate_7 rfl ?_
    refine va_last hx hb hK hP hD hS 0 3 rfl rfl (by unfold vp_in; decide) dL_fate_8 (fun H locs hP hD hS => ?_)
    have hP : va_P D vwCl (outW cJ ao (va_up o 0 r.toInt64) ++ (lsW cI cB cS aL L2 ++ [])) H := hP
    have hD : va_D A (outW cJ ao (va_up o 0 r.toInt64) ++ (lsW cI cB cS aL L2 ++ [])) := hD
    refine lv_goto (tgt := 15) hx hb dL_fate_9 (by decide) ?_
    refine lv_iconst (v := 0) hx hb dL_fate_15 (by decide) ?_
    exact krY hx hb hr hlk hP hD hS dL_fate_16 (Nat.le_of_ble_eq_true rfl) (Nat.le_of_ble_eq_true rfl) (by decide) rfl

theorem hdL_append : yL_append.cls ≠ "java/lang/invoke/MethodHandle" ∧ yL_append.cls ≠ "java/lang/invoke/VarHandle" ∧ (parseMethodDescriptor yL_append.desc).map (fun d => d.parameters.length) = some 3 := by decide +kernel
set_option maxHeartbeats 4000000 in
set_option maxRecDepth 100000 in
theorem cw_append {l : Launch} {D : va_G} {cI cB cS cJ : ClassId} {K : State → Prop} (EW : kEW D cI cB cS cJ K) (aL : Nat → Nat → Nat) (L L2 : Nat → St) (ao : Nat) (o : Nat → Int64) (x1 : Int32) {ec r : Int32} (hM : kX l D K yX3_append wsX3_append 6 82 [.ref (aL 7 0), .int x1] (lsW cI cB cS aL L) ec r (lsW cI cB cS aL L2)) (hE : ec = 0 ∨ ec = 1 ∨ ec = 2) (hT : ec ≠ 0 → L2 = L) : kY l D K yL_append wsL_append 7 103 [.ref (aL 7 0), .int x1, .ref ao] (outW cJ ao o ++ (lsW cI cB cS aL L ++ [])) (kc 1 2 ec) (outW cJ ao (if ec = 0 then va_up o 0 r.toInt64 else o) ++ (lsW cI cB cS aL L2 ++ [])) := by
  have E := EW.1.1
  refine kY_of (own := RL) (cc := cL_append) (maxL := 4) (tys := kty cI cB cS cJ) (hh := [(0, 9, 12, 13), (0, 9, 15, 15)]) (fun U h => (E.2 U h).1) (by decide) rfl rfl (Nat.le_of_ble_eq_true rfl) ?_
  intro p e s m below meth c A ls hx hb hr hml hts hown hlk hKs hK hP hD hA hS hl hSt htab
  have hl : lv_has ls 4 [(0, .ref (aL 7 0)), (1, .int x1), (2, .ref ao)] := hl
  have hX : CallFix p m c cL_append 4 s _ wsL_append RL := ⟨hx, hb, hml, hown, hts⟩
  obtain ⟨-, ⟨k11, k22, k33, k44⟩, k21, k13⟩ := EW.2 s hKs
  have qc0 := hts (.classLink RL 13 "java/lang/IllegalArgumentException") (List.mem_of_getElem? (i := 1) rfl)
  have qc1 := hts (.classLink RL 15 "java/lang/IllegalStateException") (List.mem_of_getElem? (i := 2) rfl)
  refine lv_aload_n hx hb dL_append_0 rfl (lv_at hl 2 rfl) ?_
  refine lv_iconst (v := 0) hx hb dL_append_1 (by decide) ?_
  refine lv_aload_n hx hb dL_append_2 rfl (lv_at hl 0 rfl) ?_
  refine lv_iload_n hx hb dL_append_3 rfl (lv_at hl 1 rfl) ?_
  refine kcX (ci := 3) (q0 := 0) (As := [.int x1]) (rest := [.int 0, .ref ao]) E.1 hM hX (cwV 1 hts gL_append_X3_append rfl rfl rfl hdX3_append ⟨Nat.le_of_ble_eq_true rfl, Nat.le_of_ble_eq_true rfl⟩) hKs hK hP hD hS hA hSt (outW cJ ao o) [] rfl rfl rfl rfl rfl rfl hl.1 (Nat.le_of_ble_eq_true rfl) dL_append_4 ⟨Nat.le_of_ble_eq_true rfl, Nat.le_of_ble_eq_true rfl⟩ (fun he ce q9 H locs hP hD hS hce hcv hcl => ?_) (fun he H locs hP hD hS => ?_)
  · have hL : L2 = L := hT he
    subst hL
    rcases hE with rfl | rfl | rfl
    · exact absurd rfl he
    · refine vx_catch (name := kXn 1) hown [] ⟨0, 9, 12, 13⟩ [⟨0, 9, 15, 15⟩] htab (fun z hz => by cases hz) (by decide) (by decide) qc0 (va_Nw.use rfl k11) hce hcv hcl ?_
      refine lv_astore_n (lv' := (3, .ref q9) :: [(0, .ref (aL 7 0)), (1, .int x1), (2, .ref ao)]) hx hb dL_append_12 rfl hl (by decide) rfl (fun ls hl => ?_)
      refine lv_iconst (v := 1) hx hb dL_append_13 (by decide) ?_
      exact krY hx hb hr hlk hP hD hS dL_append_14 (Nat.le_of_ble_eq_true rfl) (Nat.le_of_ble_eq_true rfl) (by decide) rfl
    · refine vx_catch (name := kXn 2) hown [⟨0, 9, 12, 13⟩] ⟨0, 9, 15, 15⟩ [] htab (fun z hz => Or.inr (by rw [List.mem_singleton.mp hz]; exact ⟨(by decide), _, qc0, k21⟩)) (by decide) (by decide) qc1 (va_Nw.use rfl k22) hce hcv hcl ?_
      refine lv_astore_n (lv' := (3, .ref q9) :: [(0, .ref (aL 7 0)), (1, .int x1), (2, .ref ao)]) hx hb dL_append_15 rfl hl (by decide) rfl (fun ls hl => ?_)
      refine lv_iconst (v := 2) hx hb dL_append_16 (by decide) ?_
      exact krY hx hb hr hlk hP hD hS dL_append_17 (Nat.le_of_ble_eq_true rfl) (Nat.le_of_ble_eq_true rfl) (by decide) rfl
  · subst he
    refine lv_i2l (v := r.toInt64) hx hb dL_append_7 rfl ?_
    refine va_last hx hb hK hP hD hS 0 3 rfl rfl (by unfold vp_in; decide) dL_append_8 (fun H locs hP hD hS => ?_)
    have hP : va_P D vwCl (outW cJ ao (va_up o 0 r.toInt64) ++ (lsW cI cB cS aL L2 ++ [])) H := hP
    have hD : va_D A (outW cJ ao (va_up o 0 r.toInt64) ++ (lsW cI cB cS aL L2 ++ [])) := hD
    refine lv_goto (tgt := 18) hx hb dL_append_9 (by decide) ?_
    refine lv_iconst (v := 0) hx hb dL_append_18 (by decide) ?_
    exact krY hx hb hr hlk hP hD hS dL_append_19 (Nat.le_of_ble_eq_true rfl) (Nat.le_of_ble_eq_true rfl) (by decide) rfl

theorem hdL_undo : yL_undo.cls ≠ "java/lang/invoke/MethodHandle" ∧ yL_undo.cls ≠ "java/lang/invoke/VarHandle" ∧ (parseMethodDescriptor yL_undo.desc).map (fun d => d.parameters.length) = some 2 := by decide +kernel
set_option maxHeartbeats 4000000 in
set_option maxRecDepth 100000 in
theorem cw_undo {l : Launch} {D : va_G} {cI cB cS cJ : ClassId} {K : State → Prop} (EW : kEW D cI cB cS cJ K) (aL : Nat → Nat → Nat) (L L2 : Nat → St) (ao : Nat) (o : Nat → Int64)  {ec r : Int32} (hM : kX l D K yX3_undo wsX3_undo 6 165 [.ref (aL 7 0)] (lsW cI cB cS aL L) ec r (lsW cI cB cS aL L2)) (hE : ec = 0 ∨ ec = 2 ∨ ec = 2) (hT : ec ≠ 0 → L2 = L) : kY l D K yL_undo wsL_undo 7 185 [.ref (aL 7 0), .ref ao] (outW cJ ao o ++ (lsW cI cB cS aL L ++ [])) (kc 2 2 ec) (outW cJ ao (if ec = 0 then va_up o 0 r.toInt64 else o) ++ (lsW cI cB cS aL L2 ++ [])) := by
  have E := EW.1.1
  refine kY_of (own := RL) (cc := cL_undo) (maxL := 3) (tys := kty cI cB cS cJ) (hh := [(0, 8, 11, 15)]) (fun U h => (E.2 U h).1) (by decide) rfl rfl (Nat.le_of_ble_eq_true rfl) ?_
  intro p e s m below meth c A ls hx hb hr hml hts hown hlk hKs hK hP hD hA hS hl hSt htab
  have hl : lv_has ls 3 [(0, .ref (aL 7 0)), (1, .ref ao)] := hl
  have hX : CallFix p m c cL_undo 3 s _ wsL_undo RL := ⟨hx, hb, hml, hown, hts⟩
  obtain ⟨-, ⟨k11, k22, k33, k44⟩, k21, k13⟩ := EW.2 s hKs
  have qc0 := hts (.classLink RL 15 "java/lang/IllegalStateException") (List.mem_of_getElem? (i := 1) rfl)
  refine lv_aload_n hx hb dL_undo_0 rfl (lv_at hl 1 rfl) ?_
  refine lv_iconst (v := 0) hx hb dL_undo_1 (by decide) ?_
  refine lv_aload_n hx hb dL_undo_2 rfl (lv_at hl 0 rfl) ?_
  refine kcX (ci := 3) (q0 := 0) (As := []) (rest := [.int 0, .ref ao]) E.1 hM hX (cwV 0 hts gL_undo_X3_undo rfl rfl rfl hdX3_undo ⟨Nat.le_of_ble_eq_true rfl, Nat.le_of_ble_eq_true rfl⟩) hKs hK hP hD hS hA hSt (outW cJ ao o) [] rfl rfl rfl rfl rfl rfl hl.1 (Nat.le_of_ble_eq_true rfl) dL_undo_3 ⟨Nat.le_of_ble_eq_true rfl, Nat.le_of_ble_eq_true rfl⟩ (fun he ce q9 H locs hP hD hS hce hcv hcl => ?_) (fun he H locs hP hD hS => ?_)
  · have hL : L2 = L := hT he
    subst hL
    rcases hE with rfl | rfl | rfl
    · exact absurd rfl he
    · refine vx_catch (name := kXn 2) hown [] ⟨0, 8, 11, 15⟩ [] htab (fun z hz => by cases hz) (by decide) (by decide) qc0 (va_Nw.use rfl k22) hce hcv hcl ?_
      refine lv_astore_n (lv' := (2, .ref q9) :: [(0, .ref (aL 7 0)), (1, .ref ao)]) hx hb dL_undo_11 rfl hl (by decide) rfl (fun ls hl => ?_)
      refine lv_iconst (v := 1) hx hb dL_undo_12 (by decide) ?_
      exact krY hx hb hr hlk hP hD hS dL_undo_13 (Nat.le_of_ble_eq_true rfl) (Nat.le_of_ble_eq_true rfl) (by decide) rfl
    · refine vx_catch (name := kXn 2) hown [] ⟨0, 8, 11, 15⟩ [] htab (fun z hz => by cases hz) (by decide) (by decide) qc0 (va_Nw.use rfl k22) hce hcv hcl ?_
      refine lv_astore_n (lv' := (2, .ref q9) :: [(0, .ref (aL 7 0)), (1, .ref ao)]) hx hb dL_undo_11 rfl hl (by decide) rfl (fun ls hl => ?_)
      refine lv_iconst (v := 1) hx hb dL_undo_12 (by decide) ?_
      exact krY hx hb hr hlk hP hD hS dL_undo_13 (Nat.le_of_ble_eq_true rfl) (Nat.le_of_ble_eq_true rfl) (by decide) rfl
  · subst he
    refine lv_i2l (v := r.toInt64) hx hb dL_undo_6 rfl ?_
    refine va_last hx hb hK hP hD hS 0 3 rfl rfl (by unfold vp_in; decide) dL_undo_7 (fun H locs hP hD hS => ?_)
    have hP : va_P D vwCl (outW cJ ao (va_up o 0 r.toInt64) ++ (lsW cI cB cS aL L2 ++ [])) H := hP
    have hD : va_D A (outW cJ ao (va_up o 0 r.toInt64) ++ (lsW cI cB cS aL L2 ++ [])) := hD
    refine lv_goto (tgt := 14) hx hb dL_undo_8 (by decide) ?_
    refine lv_iconst (v := 0) hx hb dL_undo_14 (by decide) ?_
    exact krY hx hb hr hlk hP hD hS dL_undo_15 (Nat.le_of_ble_eq_true rfl) (Nat.le_of_ble_eq_true rfl) (by decide) rfl

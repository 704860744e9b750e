/-! the constructors -/
abbrev kRmC (fr lo mc ms : Nat) : Room := { frames := fr, cells := mc, slots := ms, locals := lo }
/-- contracts of constructors: from the world wi to some world that G says -/
def kC (l : Launch) (D : va_G) (K : State → Prop) (y : MethodName) (ws : List Cond) (fr lo mc ms : Nat) (av : List Value) (wi : va_W) (G : va_W → Prop) : Prop :=
  ∀ sz : Nat, Met l y ws (kRmC fr lo mc ms) (va_Pc av (fun U => U.heap.size = sz ∧ va_P D vwCl wi U.heap ∧ K U ∧ va_D (fun _ => True) wi)) (va_Qv (fun (_ : Unit) => True) (fun _ t => ∃ w2, G w2 ∧ va_P D vwCl w2 t.heap ∧ va_D (va_A wi sz) w2) (va_A wi sz)) mc ms (va_A wi sz)
abbrev kQC (D : va_G) (below : List Frame) (G : va_W → Prop) (mc ms : Nat) (A : Nat → Prop) (a : Array Value) (s : State) : State → Prop := MQ below (va_Qv (fun (_ : Unit) => True) (fun _ t => ∃ w2, G w2 ∧ va_P D vwCl w2 t.heap ∧ va_D A w2) A) a s mc ms A
section KCC
variable {p : Program} {l : Launch} {e : Env} {R : Room} {s : State} {m : MethodId} {args : Array Value} {below : List Frame} {meth : Method} {c : Code} {H : Heap} {locs : List Loc} {cells slots : Nat} {Q : State → Prop}
variable {D : va_G} {K : State → Prop} {y : MethodName} {ws ws' : List Cond} {fr lo mc ms : Nat} {b a : Nat} {As rest st0 : List Value} {wi w : va_W} {Ts : List Cond} {own C : String} {cc bytes : ByteArray} {maxL nL index n pc : Nat} {ret : Option FieldType} {ls : Array Slot} {A0 A : Nat → Prop} {H0 : Heap} {tys : List (ClassId × FieldType)} {G : va_W → Prop}
theorem kC_of {av : List Value} (hKt : ∀ U, K U → va_K D vwCl tys U) (hy : plainName y.cls = true) (hyc : y.cls = own) (hw : ws = Cond.code y cc maxL none :: ws') (hav : (lg_sl av).length ≤ maxL) (hyn : y.name = "<init>")
    (body : ∀ (p : Program) (e : Env) (s : State) (m : MethodId) (below : List Frame) (meth : Method) (c : Code) (A : Nat → Prop) (ls : Array Slot), p.tables.exec = Jvm.exec → c.code = cc → meth.sig.returnType = none → c.maxLocals = maxL → (∀ w ∈ ws, w.before av.toArray s = true) → s.vm.findClass own = some m.cls → meth.locks = false → K s → va_K D vwCl tys s → va_P D vwCl wi s.heap → va_D A wi → (∀ q, s.heap.size ≤ q → A q) → va_S A s.heap s.heap [] → lv_has ls maxL (lv_args 0 av) → meth.name = "<init>" →
      W p l e (kRmC fr lo mc ms) s m av.toArray below meth c s.heap [] 0 0 (kQC D below G mc ms A av.toArray s) (F0 m 0 ls [])) : kC l D K y ws fr lo mc ms av wi G := by
  intro sz
  refine Met.ofW (cc := cc) (maxL := maxL) (ret := none) hy hw ?_
  intro p e s m args below meth c s₁ B hml hv
  obtain ⟨rfl, hsz, hP, hK, hD0⟩ := hv
  subst hsz
  have h1 : s.vm.findClass y.cls = some m.cls := findClass_of_methodNamed B.named
  rw [hyc] at h1
  rw [lg_entry_eq]
  exact body p e s m below meth c _ _ B.exec B.bytes B.returns hml (atoms_spec (ws := ws) B.pre) h1 B.notSynchronized hK (hKt s hK) hP hD0.self (fun q h => Or.inr h) va_S.rf (lv_entry av hav) ((name_of_methodNamed B.named B.method).1.trans hyn)
theorem krC {w2 : va_W} (hx : p.tables.exec = Jvm.exec) (hb : c.code = cc) (hr : meth.sig.returnType = none) (hlocks : meth.locks = false) (hP : va_P D vwCl w2 H) (hD : va_D A w2) (hS : va_S A s.heap H locs) (hdg : decode cc pc = .ok (.return_, 1)) (hg : G w2) (hc : cells ≤ mc) (hs : slots ≤ ms) : W p l e R s m args below meth c H locs cells slots (kQC D below G mc ms A args s) (F0 m pc ls []) := by
  refine W.widen (k := mc) (n := ms) hc hs ?_
  exact W.vret hx hb hr (fun t ht hW => ⟨⟨(), rfl, trivial, w2, hg, by rw [ht]; exact hP, hD⟩, hS.F ht⟩) hS.2.2 hdg
theorem kcC (hKK : kK K) (hM : kC l D K y ws fr lo mc ms (.ref b :: As) wi G) (S : CallFix p m c cc nL s args Ts own) (cw : CallB R s args own index y bytes maxL none ws (kRmC fr lo mc ms) mc ms n ∧ y.name = "<init>" ∧ (Cond.instanceMethod y).before args s = true) (hKs : K s)
    (hP : va_P D vwCl w H) (hD : va_D A0 w) (hS : va_S A0 H0 H locs) (hA : ∀ q, H0.size ≤ q → A0 q) (wl wr : va_W) (hw : w = wl ++ (wi ++ wr))
    (hst : st0 = As.reverse ++ .ref b :: rest) (hn : As.length = n) (hsize : ls.size = nL) (hrm : (rest.map fun v => v.category).sum ≤ 8) (hdg : decode cc pc = .ok (.invokespecial index, 3)) (hc : cells + mc ≤ R.cells ∧ slots + ms ≤ R.slots)
    (kk : ∀ (w2 : va_W) (_ : G w2) (H1 : Heap) (locs1 : List Loc), va_P D vwCl (wl ++ (w2 ++ wr)) H1 → va_D A0 (wl ++ (w2 ++ wr)) → va_S A0 H0 H1 locs1 → W p l e R s m args below meth c H1 locs1 (cells + mc) (slots + ms) Q (F0 m (pc + 3) ls rest)) : W p l e R s m args below meth c H locs cells slots Q (F0 m pc ls st0) := by
  subst hw; subst hst
  have hF := kb_F hD hS hA
  refine va_callv (va_runI (As := As) (rest := rest) S (hM H.size) cw ⟨kb_pre hKK, fun U hU hW => ⟨rfl, by rw [hU], by rw [hU]; exact kb_P hP, hKK s U hW hKs, (kb_D hD).weaken (fun _ _ _ _ => trivial)⟩⟩ rfl hn hsize rfl (lv_room hrm) hdg hc) hS (fun q _ h => hF q h) hF (fun u t H1 locs1 ht hvm hr1 hB hz1 hk1 hS1 => ?_)
  obtain ⟨w2, hg, hP1, hD1⟩ := hB
  rw [ht] at hP1
  obtain ⟨a1, a2⟩ := kb_join hP hD hk1 hF hP1 hD1
  exact kk w2 hg H1 locs1 a1 a2 hS1
theorem kNewI {cI cB cS cJ : ClassId} (hx : p.tables.exec = Jvm.exec) (hb : c.code = cc) (harr : (Cond.arrayClass (newarray.typeOf .int)).before args s = true) (hK : va_K D vwCl (kty cI cB cS cJ) s) (hP : va_P D vwCl w H) (hD : va_D A w) (hS : va_S A H0 H locs) (hA : ∀ q, H0.size ≤ q → A q)
    {v : Int32} {N : Nat} (hn : ¬ v < 0) (hN : v.toNatClampNeg = N) (hbytes : N * componentBytes .int ≤ 536870912) (hcells : cells + 1 ≤ R.cells) (hslots : slots + N ≤ R.slots) (hdg : decode cc pc = .ok (.newarray .int, 2))
    (kk : ∀ (q : Nat) (H1 : Heap), va_P D vwCl (w ++ [(q, .inl (cI, N, .inl (fun _ => 0)))]) H1 → va_D A (w ++ [(q, .inl (cI, N, .inl (fun _ => 0)))]) → va_S A H0 H1 locs → W p l e R s m args below meth c H1 locs (cells + 1) (slots + N) Q (F0 m (pc + 2) ls (.ref q :: rest))) : W p l e R s m args below meth c H locs cells slots Q (F0 m pc ls (.int v :: rest)) := by
  refine va_newa (a0 := (N, .inl (fun _ => 0))) hx hb harr rfl hK hP hD hS hA (fun cA => by rw [vp_cell_i]; rfl) hn hN hbytes hcells hslots hdg (fun q cA H1 hK1 hP1 hD1 hS1 => ?_)
  have h1 : s.vm.findClass ("[" ++ FieldType.int.toString) = some cA := (hK1.2 4 (cA, .int) rfl).2
  have h2 : s.vm.findClass ("[" ++ FieldType.int.toString) = some cI := (hK.2 0 (cI, .int) rfl).2
  obtain rfl : cI = cA := Option.some.inj (h2.symm.trans h1)
  exact kk q H1 hP1 hD1 hS1
theorem kNewB {cI cB cS cJ : ClassId} (hx : p.tables.exec = Jvm.exec) (hb : c.code = cc) (harr : (Cond.arrayClass (newarray.typeOf .byte)).before args s = true) (hK : va_K D vwCl (kty cI cB cS cJ) s) (hP : va_P D vwCl w H) (hD : va_D A w) (hS : va_S A H0 H locs) (hA : ∀ q, H0.size ≤ q → A q)
    {v : Int32} {N : Nat} (hn : ¬ v < 0) (hN : v.toNatClampNeg = N) (hbytes : N * componentBytes .byte ≤ 536870912) (hcells : cells + 1 ≤ R.cells) (hslots : slots + N ≤ R.slots) (hdg : decode cc pc = .ok (.newarray .byte, 2))
    (kk : ∀ (q : Nat) (H1 : Heap), va_P D vwCl (w ++ [(q, .inl (cB, N, .inl (fun _ => 0)))]) H1 → va_D A (w ++ [(q, .inl (cB, N, .inl (fun _ => 0)))]) → va_S A H0 H1 locs → W p l e R s m args below meth c H1 locs (cells + 1) (slots + N) Q (F0 m (pc + 2) ls (.ref q :: rest))) : W p l e R s m args below meth c H locs cells slots Q (F0 m pc ls (.int v :: rest)) := by
  refine va_newa (a0 := (N, .inl (fun _ => 0))) hx hb harr rfl hK hP hD hS hA (fun cA => by rw [vp_cell_i]; rfl) hn hN hbytes hcells hslots hdg (fun q cA H1 hK1 hP1 hD1 hS1 => ?_)
  have h1 : s.vm.findClass ("[" ++ FieldType.byte.toString) = some cA := (hK1.2 4 (cA, .byte) rfl).2
  have h2 : s.vm.findClass ("[" ++ FieldType.byte.toString) = some cB := (hK.2 1 (cB, .byte) rfl).2
  obtain rfl : cB = cA := Option.some.inj (h2.symm.trans h1)
  exact kk q H1 hP1 hD1 hS1
theorem kNewJ {cI cB cS cJ : ClassId} (hx : p.tables.exec = Jvm.exec) (hb : c.code = cc) (harr : (Cond.arrayClass (newarray.typeOf .long)).before args s = true) (hK : va_K D vwCl (kty cI cB cS cJ) s) (hP : va_P D vwCl w H) (hD : va_D A w) (hS : va_S A H0 H locs) (hA : ∀ q, H0.size ≤ q → A q)
    {v : Int32} {N : Nat} (hn : ¬ v < 0) (hN : v.toNatClampNeg = N) (hbytes : N * componentBytes .long ≤ 536870912) (hcells : cells + 1 ≤ R.cells) (hslots : slots + N ≤ R.slots) (hdg : decode cc pc = .ok (.newarray .long, 2))
    (kk : ∀ (q : Nat) (H1 : Heap), va_P D vwCl (w ++ [(q, .inl (cJ, N, .inr (.inl (fun _ => 0))))]) H1 → va_D A (w ++ [(q, .inl (cJ, N, .inr (.inl (fun _ => 0))))]) → va_S A H0 H1 locs → W p l e R s m args below meth c H1 locs (cells + 1) (slots + N) Q (F0 m (pc + 2) ls (.ref q :: rest))) : W p l e R s m args below meth c H locs cells slots Q (F0 m pc ls (.int v :: rest)) := by
  refine va_newa (a0 := (N, .inr (.inl (fun _ => 0)))) hx hb harr rfl hK hP hD hS hA (fun cA => by rw [vp_cell_l]; rfl) hn hN hbytes hcells hslots hdg (fun q cA H1 hK1 hP1 hD1 hS1 => ?_)
  have h1 : s.vm.findClass ("[" ++ FieldType.long.toString) = some cA := (hK1.2 4 (cA, .long) rfl).2
  have h2 : s.vm.findClass ("[" ++ FieldType.long.toString) = some cJ := (hK.2 3 (cJ, .long) rfl).2
  obtain rfl : cJ = cA := Option.some.inj (h2.symm.trans h1)
  exact kk q H1 hP1 hD1 hS1
theorem kNewQ {cI cB cS cJ : ClassId} (hx : p.tables.exec = Jvm.exec) (hb : c.code = cc) (hown : s.vm.findClass own = some m.cls) (hclink : (Cond.classLink own index RX1).before args s = true) (hover : va_AO RX1 s) (hK : va_K D vwCl (kty cI cB cS cJ) s) (hP : va_P D vwCl w H) (hD : va_D A w) (hS : va_S A H0 H locs) (hA : ∀ q, H0.size ≤ q → A q)
    {v : Int32} {N : Nat} (hn : ¬ v < 0) (hN : v.toNatClampNeg = N) (hbytes : N * 4 ≤ 536870912) (hcells : cells + 1 ≤ R.cells) (hslots : slots + N ≤ R.slots) (hdg : decode cc pc = .ok (.anewarray index, 3))
    (kk : ∀ (q : Nat) (H1 : Heap), va_P D vwCl (w ++ [(q, .inl (cS, N, .inr (.inr (.inr (.inr (fun _ => none))))))]) H1 → va_D A (w ++ [(q, .inl (cS, N, .inr (.inr (.inr (.inr (fun _ => none))))))]) → va_S A H0 H1 locs → W p l e R s m args below meth c H1 locs (cells + 1) (slots + N) Q (F0 m (pc + 3) ls (.ref q :: rest))) : W p l e R s m args below meth c H locs cells slots Q (F0 m pc ls (.int v :: rest)) := by
  refine va_newq hx hb hown hclink hover hK hP hD hS hA hn hN hbytes hcells hslots hdg (fun q cA H1 hK1 hP1 hD1 hS1 => ?_)
  obtain ⟨_, _, _, _, _, h1⟩ := (hK1.2 4 (cA, .object RX1) rfl).2
  obtain ⟨_, _, _, _, _, h2⟩ := (hK.2 2 (cS, .object RX1) rfl).2
  obtain rfl : cS = cA := Option.some.inj (h2.symm.trans h1)
  exact kk q H1 hP1 hD1 hS1
theorem kAst (hexec : p.tables.exec = Jvm.exec) (hb : c.code = cc) (hK : va_K D vwCl tys s) (hP : va_P D vwCl w H) (hD : va_D A w) (hS : va_S A H0 H locs) (q0 t0 : Nat) {cA : ClassId} {N k : Nat} {f : Nat → Int32} (ha : w[q0]? = some (a, .inl (cA, N, .inl f))) (ht : tys[t0]? = some (cA, .int)) {i : Int32} {x : Int32} (hin : vp_in i N) (hk : i.toNatClampNeg = k) (hdg : decode cc pc = .ok (.iastore, 1))
    (kk : ∀ (H1 : Heap) (locs1 : List Loc), va_P D vwCl (w.set q0 (a, .inl (cA, N, .inl (upd f k x)))) H1 → va_D A (w.set q0 (a, .inl (cA, N, .inl (upd f k x)))) → va_S A H0 H1 locs1 → W p l e R s m args below meth c H1 locs1 cells slots Q (F0 m (pc + 1) ls rest)) : W p l e R s m args below meth c H locs cells slots Q (F0 m pc ls (.int x :: .int i :: .ref a :: rest)) := by
  subst hk
  exact va_iast hexec hb hK hP hD hS q0 t0 ha ht hin hdg kk
theorem kAstq (hexec : p.tables.exec = Jvm.exec) (hb : c.code = cc) (hK : va_K D vwCl tys s) (hP : va_P D vwCl w H) (hD : va_D A w) (hS : va_S A H0 H locs) (q0 t0 qk ci : Nat) {cA : ClassId} {r : vw_C} {N v k : Nat} {vs : List Value} {f : Nat → Option Nat} (ha : w[q0]? = some (a, .inl (cA, N, .inr (.inr (.inr (.inr f)))))) (ht : tys[t0]? = some (cA, .object r.1)) (hv : w[qk]? = some (v, .inr (ci, vs))) (hc : vwCl[ci]? = some r) {i : Int32} (hin : vp_in i N) (hk : i.toNatClampNeg = k) (hdg : decode cc pc = .ok (.aastore, 1))
    (kk : ∀ (H1 : Heap) (locs1 : List Loc), va_P D vwCl (w.set q0 (a, .inl (cA, N, .inr (.inr (.inr (.inr (va_up f k (some v)))))))) H1 → va_D A (w.set q0 (a, .inl (cA, N, .inr (.inr (.inr (.inr (va_up f k (some v)))))))) → va_S A H0 H1 locs1 → W p l e R s m args below meth c H1 locs1 cells slots Q (F0 m (pc + 1) ls rest)) : W p l e R s m args below meth c H locs cells slots Q (F0 m pc ls (.ref v :: .int i :: .ref a :: rest)) := by
  subst hk
  exact va_astq hexec hb hK hP hD hS q0 t0 qk ci ha ht hv hc hin hdg kk
end KCC
/-- two neighbours change places -/
def kswg (a b c : Nat) (k : Nat) : Nat := if k < a then k else if k < a + c then k + b else if k < a + c + b then k - c else k
theorem ksw_at {α : Type} (a b c d : List α) (k : Nat) (q : α) (h : (a ++ (c ++ (b ++ d)))[k]? = some q) : (a ++ (b ++ (c ++ d)))[kswg a.length b.length c.length k]? = some q := by
  unfold kswg
  by_cases h1 : k < a.length
  · rw [if_pos h1]
    rw [List.getElem?_append_left h1] at h ⊢
    exact h
  · rw [if_neg h1]
    rw [List.getElem?_append_right (by omega)] at h
    by_cases h2 : k < a.length + c.length
    · rw [if_pos h2]
      rw [List.getElem?_append_left (by omega)] at h
      rw [List.getElem?_append_right (by omega), List.getElem?_append_right (by omega), List.getElem?_append_left (by omega)]
      rw [show k + b.length - a.length - b.length = k - a.length by omega]
      exact h
    · rw [if_neg h2]
      rw [List.getElem?_append_right (by omega)] at h
      by_cases h3 : k < a.length + c.length + b.length
      · rw [if_pos h3]
        rw [List.getElem?_append_left (by omega)] at h
        rw [List.getElem?_append_right (by omega), List.getElem?_append_left (by omega)]
        rw [show k - c.length - a.length = k - a.length - c.length by omega]
        exact h
      · rw [if_neg h3]
        rw [List.getElem?_append_right (by omega)] at h
        rw [List.getElem?_append_right (by omega), List.getElem?_append_right (by omega), List.getElem?_append_right (by omega)]
        rw [show k - a.length - b.length - c.length = k - a.length - c.length - b.length by omega]
        exact h
theorem ksw_P {D : va_G} {cl : List vw_C} {a b c d : va_W} {H : Heap} (h : va_P D cl (a ++ (b ++ (c ++ d))) H) : va_P D cl (a ++ (c ++ (b ++ d))) H := h.by _ (fun k q hk => ksw_at a b c d k q hk)
theorem ksw_D {A : Nat → Prop} {a b c d : va_W} (h : va_D A (a ++ (b ++ (c ++ d)))) : va_D A (a ++ (c ++ (b ++ d))) := h.by _ (fun k q hk => ksw_at a b c d k q hk) (fun i j hi hj e => by
  simp only [List.length_append] at hi hj
  unfold kswg at e
  split at e <;> (try split at e) <;> (try split at e) <;> (try split at e) <;> (try split at e) <;> (try split at e) <;> omega)
theorem kb_arrq {D : va_G} {cl : List vw_C} {a b : va_W} {H : Heap} {q : Nat} {cA : ClassId} {n : Nat} {f g : Nat → Option Nat} (hP : va_P D cl (a ++ ((q, .inl (cA, n, .inr (.inr (.inr (.inr f))))) :: b)) H) (h : ∀ j, j < n → f j = g j) : va_P D cl (a ++ ((q, .inl (cA, n, .inr (.inr (.inr (.inr g))))) :: b)) H := by
  intro k x hk
  rcases Nat.lt_or_ge k a.length with h1 | h1
  · exact hP k x (by rw [List.getElem?_append_left h1] at hk ⊢; exact hk)
  · rw [List.getElem?_append_right h1] at hk
    rcases Nat.eq_zero_or_pos (k - a.length) with h2 | h2
    · rw [h2] at hk
      cases hk
      have h3 := hP k (q, .inl (cA, n, .inr (.inr (.inr (.inr f))))) (by rw [List.getElem?_append_right h1, h2]; rfl)
      show H[q]? = some (vp_cell cA (n, .inr (.inr (.inr (.inr g)))))
      rw [show H[q]? = some (vp_cell cA (n, .inr (.inr (.inr (.inr f))))) from h3, vp_cell_q, vp_cell_q]
      congr 1
      simp only [arrV, Cell.mk.injEq, true_and, and_true]
      apply Array.ext (by simp)
      intro i hi _
      simp only [Array.getElem_ofFn]
      rw [h i (by simpa using hi)]
    · refine hP k x ?_
      rw [List.getElem?_append_right h1]
      obtain ⟨j, hj⟩ := Nat.exists_eq_succ_of_ne_zero (Nat.ne_of_gt h2)
      rw [hj] at hk ⊢
      exact hk

set_option maxHeartbeats 4000000 in
set_option maxRecDepth 100000 in
theorem cx2_init {l : Launch} {D : va_G} {cI cB cS cJ : ClassId} {K : State → Prop} (E : kE D cI cB cS cJ K) (h0 : Nat) (w rm : Int32) (n : Nat) (hmx_w : (if (1 : Int32) < w then w else 1) = w) (hmx_rm : (if (1 : Int32) < rm then rm else 1) = rm) (hn0 : ¬ (w * rm) < 0) (hn1 : (w * rm).toNatClampNeg = n) (hn2 : n * componentBytes .int ≤ 536870912) : kC l D K yX2_init wsX2_init 1 24 1 n [.ref h0, .int w, .int rm] [(h0, .inr (2, [.int 0, .int 0, .null, .int 0]))] (fun w2 => ∃ c, w2 = tbW cI h0 c w rm n (0, fun _ => 0)) := by
  refine kC_of (own := RX2) (cc := cX2_init) (maxL := 3) (tys := kty cI cB cS cJ) (fun U h => (E.2 U h).1) (by decide) rfl rfl (Nat.le_of_ble_eq_true rfl) rfl ?_
  intro p e s m below meth c A ls hx hb hr hml hts hown hlk hKs hK hP hD hA hS hl hini
  have hl : lv_has ls 3 [(0, .ref h0), (1, .int w), (2, .int rm)] := hl
  have hX : CallFix p m c cX2_init 3 s _ wsX2_init RX2 := ⟨hx, hb, hml, hown, hts⟩
  have hinX2 : ∀ w ∈ wsX20, w ∈ wsX2_init := fun w h => List.mem_cons_of_mem _ (List.mem_append_right _ h)
  have q1 := hts (.methodLink RX2 3 objectInit) (List.mem_of_getElem? (i := 1) rfl)
  have q2 := hts (.instanceMethod objectInit) (List.mem_of_getElem? (i := 2) rfl)
  have q3 := hts (.code objectInit ⟨#[0xb1]⟩ 1 none) (List.mem_of_getElem? (i := 3) rfl)
  have q4 := hts (.fieldLink RX2 9 "LabelStation$Table" "rows" "I") (List.mem_of_getElem? (i := 4) rfl)
  have q5 := hts (.methodLink RX2 15 Lib.Math.max.name) (List.mem_of_getElem? (i := 5) rfl)
  have q6 := hts (.static Lib.Math.max.name) (List.mem_of_getElem? (i := 6) rfl)
  have q7 := hts (.initialized "java/lang/Math") (List.mem_of_getElem? (i := 7) rfl)
  have q8 := hts (.code Lib.Math.max.name Lib.Math.max.code 2 (some .int)) (List.mem_of_getElem? (i := 8) rfl)
  have q9 := hts (.fieldLink RX2 21 "LabelStation$Table" "width" "I") (List.mem_of_getElem? (i := 9) rfl)
  have q10 := hts (.fieldLink RX2 24 "LabelStation$Table" "room" "I") (List.mem_of_getElem? (i := 10) rfl)
  have q11 := hts (.arrayClass .int) (List.mem_of_getElem? (i := 11) rfl)
  have q12 := hts (.fieldLink RX2 27 "LabelStation$Table" "cells" "[I") (List.mem_of_getElem? (i := 12) rfl)
  have hmc0 : 0 ≤ 1 := by decide
  have hmc1 : 1 ≤ 1 := by decide
  have hms0 : 0 ≤ n := by omega
  have hms1 : 0 + n ≤ n := by omega
  refine lv_aload_n hx hb dX2_init_0 rfl (lv_at hl 0 rfl) ?_
  refine W.objInit hx hb hown q1 q2 q3 rfl (by rw [hml]; exact hl.1) rfl dX2_init_1 (Nat.le_of_ble_eq_true rfl) (Nat.le_of_ble_eq_true rfl) ?_
  refine W.eq (g2 := F0 m 4 ls []) rfl ?_
  refine lv_aload_n hx hb dX2_init_4 rfl (lv_at hl 0 rfl) ?_
  refine lv_iconst (v := 0) hx hb dX2_init_5 (by decide) ?_
  refine va_put (D := D) (ci := 2) (v := .int 0) (ty := .int) (C := RX2) (T := TX2) (N := 4) hx hb hts hinX2 tyX2 tyX2_ok nmX2 hown hK hP hD hS 0 rfl rfl 3 (by decide) q4 (fun _ h9 => h9) rfl (by decide +kernel) rfl rfl (Nat.le_of_ble_eq_true rfl) dX2_init_6 (fun H locs hP hD hS => ?_)
  have hP : va_P D vwCl [(h0, .inr (2, [.int 0, .int 0, .null, .int 0]))] H := hP
  have hD : va_D A [(h0, .inr (2, [.int 0, .int 0, .null, .int 0]))] := hD
  refine lv_aload_n hx hb dX2_init_9 rfl (lv_at hl 0 rfl) ?_
  refine lv_iconst (v := 1) hx hb dX2_init_10 (by decide) ?_
  refine lv_iload_n hx hb dX2_init_11 rfl (lv_at hl 1 rfl) ?_
  refine va_mmax hx hb (hml.trans hl.1.symm) hown q5 q6 q7 q8 (Nat.le_of_ble_eq_true rfl) (Nat.le_of_ble_eq_true rfl) hmc0 hms0 dX2_init_12 ?_
  refine kw_top (v := .int w) (by rw [hmx_w]) ?_
  refine va_putF (D := D) (ci := 2) (v := .int w) (ty := .int) (C := RX2) (T := TX2) (N := 4) hx hb hts hinX2 tyX2 tyX2_ok nmX2 hown hK hP hD hS 0 rfl rfl 0 (by decide) q9 (fun _ h9 => h9) rfl hini rfl (by decide +kernel) rfl rfl (Nat.le_of_ble_eq_true rfl) dX2_init_15 (fun H locs hP hD hS => ?_)
  have hP : va_P D vwCl [(h0, .inr (2, [.int w, .int 0, .null, .int 0]))] H := hP
  have hD : va_D A [(h0, .inr (2, [.int w, .int 0, .null, .int 0]))] := hD
  refine lv_aload_n hx hb dX2_init_18 rfl (lv_at hl 0 rfl) ?_
  refine lv_iconst (v := 1) hx hb dX2_init_19 (by decide) ?_
  refine lv_iload_n hx hb dX2_init_20 rfl (lv_at hl 2 rfl) ?_
  refine va_mmax hx hb (hml.trans hl.1.symm) hown q5 q6 q7 q8 (Nat.le_of_ble_eq_true rfl) (Nat.le_of_ble_eq_true rfl) hmc0 hms0 dX2_init_21 ?_
  refine kw_top (v := .int rm) (by rw [hmx_rm]) ?_
  refine va_putF (D := D) (ci := 2) (v := .int rm) (ty := .int) (C := RX2) (T := TX2) (N := 4) hx hb hts hinX2 tyX2 tyX2_ok nmX2 hown hK hP hD hS 0 rfl rfl 1 (by decide) q10 (fun _ h9 => h9) rfl hini rfl (by decide +kernel) rfl rfl (Nat.le_of_ble_eq_true rfl) dX2_init_24 (fun H locs hP hD hS => ?_)
  have hP : va_P D vwCl [(h0, .inr (2, [.int w, .int rm, .null, .int 0]))] H := hP
  have hD : va_D A [(h0, .inr (2, [.int w, .int rm, .null, .int 0]))] := hD
  refine lv_aload_n hx hb dX2_init_27 rfl (lv_at hl 0 rfl) ?_
  refine lv_aload_n hx hb dX2_init_28 rfl (lv_at hl 0 rfl) ?_
  refine va_get (D := D) (ci := 2) (v := .int w) (C := RX2) (T := TX2) (N := 4) hx hb hts hinX2 hown hK hP 0 rfl rfl 0 (by decide) q9 (fun _ h9 => h9) rfl dX2_init_29 ?_
  refine lv_aload_n hx hb dX2_init_32 rfl (lv_at hl 0 rfl) ?_
  refine va_get (D := D) (ci := 2) (v := .int rm) (C := RX2) (T := TX2) (N := 4) hx hb hts hinX2 hown hK hP 0 rfl rfl 1 (by decide) q10 (fun _ h9 => h9) rfl dX2_init_33 ?_
  refine lv_imul hx hb dX2_init_36 ?_
  refine kNewI hx hb q11 hK hP hD hS hA (N := n) hn0 hn1 hn2 hmc1 hms1 dX2_init_37 (fun q1 H hP hD hS => ?_)
  have hP : va_P D vwCl [(h0, .inr (2, [.int w, .int rm, .null, .int 0])), (q1, .inl (cI, n, .inl (fun _ => 0)))] H := hP
  have hD : va_D A [(h0, .inr (2, [.int w, .int rm, .null, .int 0])), (q1, .inl (cI, n, .inl (fun _ => 0)))] := hD
  refine va_putF (D := D) (ci := 2) (v := .ref q1) (ty := (.array .int)) (C := RX2) (T := TX2) (N := 4) hx hb hts hinX2 tyX2 tyX2_ok nmX2 hown hK hP hD hS 0 rfl rfl 2 (by decide) q12 (fun _ h9 => h9) rfl hini rfl (by decide +kernel) rfl rfl (Nat.le_of_ble_eq_true rfl) dX2_init_39 (fun H locs hP hD hS => ?_)
  have hP : va_P D vwCl [(h0, .inr (2, [.int w, .int rm, .ref q1, .int 0])), (q1, .inl (cI, n, .inl (fun _ => 0)))] H := hP
  have hD : va_D A [(h0, .inr (2, [.int w, .int rm, .ref q1, .int 0])), (q1, .inl (cI, n, .inl (fun _ => 0)))] := hD
  exact krC hx hb hr hlk hP hD hS dX2_init_42 ⟨_, rfl⟩ hmc1 hms1

/-- a state as it begins -/
def iS0 : St := fun k => match k with
  | 0 => (upd (upd (upd (upd (upd (upd (upd (fun _ => 0) 0 5) 1 8) 2 4) 3 10) 4 5) 5 10) 6 50)
  | 1 => (upd (upd (upd (upd (upd (fun _ => 0) 0 100) 1 200) 2 260) 3 400) 4 500)
  | 2 => (fun _ => 0)
  | 3 => fun i => if i = 6 then (-1) else 0
  | _ => fun _ => 0

set_option maxHeartbeats 4000000 in
set_option maxRecDepth 100000 in
theorem cx1_init {l : Launch} {D : va_G} {cI cB cS cJ : ClassId} {K : State → Prop} (E : kE D cI cB cS cJ K) (h0 : Nat) : kC l D K yX1_init wsX1_init 2 46 13 1291 [.ref h0] [(h0, .inr (1, [.null, .null, .null, .null, .null, .null, .null, .null, .int 0, .int 0, .int 0, .int 0, .int 0, .int 0, .int 0, .int 0]))] (fun w2 => ∃ ad : Nat → Nat, ad 0 = h0 ∧ w2 = stW cI ad iS0) := by
  refine kC_of (own := RX1) (cc := cX1_init) (maxL := 1) (tys := kty cI cB cS cJ) (fun U h => (E.2 U h).1) (by decide) rfl rfl (Nat.le_of_ble_eq_true rfl) rfl ?_
  intro p e s m below meth c A ls hx hb hr hml hts hown hlk hKs hK hP hD hA hS hl hini
  have hl : lv_has ls 1 [(0, .ref h0)] := hl
  have hX : CallFix p m c cX1_init 1 s _ wsX1_init RX1 := ⟨hx, hb, hml, hown, hts⟩
  have hinX1 : ∀ w ∈ wsX10, w ∈ wsX1_init := fun w h => List.mem_cons_of_mem _ (List.mem_append_left _ (List.mem_append_right _ h))
  have hinX2 : ∀ w ∈ wsX20, w ∈ wsX1_init := fun w h => List.mem_cons_of_mem _ (List.mem_append_right _ h)
  have q1 := hts (.methodLink RX1 3 objectInit) (List.mem_of_getElem? (i := 1) rfl)
  have q2 := hts (.instanceMethod objectInit) (List.mem_of_getElem? (i := 2) rfl)
  have q3 := hts (.code objectInit ⟨#[0xb1]⟩ 1 none) (List.mem_of_getElem? (i := 3) rfl)
  have q4 := hts (.arrayClass .int) (List.mem_of_getElem? (i := 4) rfl)
  have q5 := hts (.fieldLink RX1 9 "LabelStation$State" "settings" "[I") (List.mem_of_getElem? (i := 5) rfl)
  have q6 := hts (.fieldLink RX1 15 "LabelStation$State" "places" "[I") (List.mem_of_getElem? (i := 6) rfl)
  have q7 := hts (.fieldLink RX1 18 "LabelStation$State" "counters" "[I") (List.mem_of_getElem? (i := 7) rfl)
  have q8 := hts (.classLink RX1 21 RX2) (List.mem_of_getElem? (i := 8) rfl)
  have q9 := hts (.instantiable RX2 4) (List.mem_of_getElem? (i := 9) rfl)
  have q10 := hts (.initialized RX2) (List.mem_of_getElem? (i := 10) rfl)
  have q11 := hts (.fieldLink RX1 26 "LabelStation$State" "items" "LLabelStation$Table;") (List.mem_of_getElem? (i := 11) rfl)
  have q12 := hts (.fieldLink RX1 30 "LabelStation$State" "records" "LLabelStation$Table;") (List.mem_of_getElem? (i := 12) rfl)
  have q13 := hts (.fieldLink RX1 33 "LabelStation$State" "verdicts" "LLabelStation$Table;") (List.mem_of_getElem? (i := 13) rfl)
  have q14 := hts (.fieldLink RX1 36 "LabelStation$State" "binArrivals" "LLabelStation$Table;") (List.mem_of_getElem? (i := 14) rfl)
  have q15 := hts (.fieldLink RX1 39 "LabelStation$State" "expectations" "LLabelStation$Table;") (List.mem_of_getElem? (i := 15) rfl)
  have q16 := hts (.fieldLink RX1 42 "LabelStation$State" "tick" "I") (List.mem_of_getElem? (i := 16) rfl)
  have q17 := hts (.fieldLink RX1 46 "LabelStation$State" "running" "Z") (List.mem_of_getElem? (i := 17) rfl)
  have q18 := hts (.fieldLink RX1 50 "LabelStation$State" "alarm" "I") (List.mem_of_getElem? (i := 18) rfl)
  have q19 := hts (.fieldLink RX1 53 "LabelStation$State" "jammed" "Z") (List.mem_of_getElem? (i := 19) rfl)
  have q20 := hts (.fieldLink RX1 56 "LabelStation$State" "consecutiveRejects" "I") (List.mem_of_getElem? (i := 20) rfl)
  have q21 := hts (.fieldLink RX1 59 "LabelStation$State" "diverted" "I") (List.mem_of_getElem? (i := 21) rfl)
  have q22 := hts (.fieldLink RX1 62 "LabelStation$State" "watched" "I") (List.mem_of_getElem? (i := 22) rfl)
  have q23 := hts (.fieldLink RX1 65 "LabelStation$State" "outcome" "I") (List.mem_of_getElem? (i := 23) rfl)
  have q24 := hts (.methodLink RX1 23 yX2_init) (List.mem_of_getElem? (i := 24) rfl)
  have q25 := hts (.instanceMethod yX2_init) (List.mem_of_getElem? (i := 25) rfl)
  have hmc1 : 1 ≤ 13 := by decide
  have hmc2 : 2 ≤ 13 := by decide
  have hmc3 : 3 ≤ 13 := by decide
  have hmc4 : 4 ≤ 13 := by decide
  have hmc5 : 5 ≤ 13 := by decide
  have hmc6 : 6 ≤ 13 := by decide
  have hmc7 : 7 ≤ 13 := by decide
  have hmc8 : 8 ≤ 13 := by decide
  have hmc9 : 9 ≤ 13 := by decide
  have hmc10 : 10 ≤ 13 := by decide
  have hmc11 : 11 ≤ 13 := by decide
  have hmc12 : 12 ≤ 13 := by decide
  have hmc13 : 13 ≤ 13 := by decide
  have hms1 : 0 + 7 ≤ 1291 := by omega
  have hms2 : 0 + 7 + 5 ≤ 1291 := by omega
  have hms3 : 0 + 7 + 5 + 18 ≤ 1291 := by omega
  have hms4 : 0 + 7 + 5 + 18 + 4 ≤ 1291 := by omega
  have hms5 : 0 + 7 + 5 + 18 + 4 + 80 ≤ 1291 := by omega
  have hms6 : 0 + 7 + 5 + 18 + 4 + 80 + 4 ≤ 1291 := by omega
  have hms7 : 0 + 7 + 5 + 18 + 4 + 80 + 4 + 210 ≤ 1291 := by omega
  have hms8 : 0 + 7 + 5 + 18 + 4 + 80 + 4 + 210 + 4 ≤ 1291 := by omega
  have hms9 : 0 + 7 + 5 + 18 + 4 + 80 + 4 + 210 + 4 + 800 ≤ 1291 := by omega
  have hms10 : 0 + 7 + 5 + 18 + 4 + 80 + 4 + 210 + 4 + 800 + 4 ≤ 1291 := by omega
  have hms11 : 0 + 7 + 5 + 18 + 4 + 80 + 4 + 210 + 4 + 800 + 4 + 50 ≤ 1291 := by omega
  have hms12 : 0 + 7 + 5 + 18 + 4 + 80 + 4 + 210 + 4 + 800 + 4 + 50 + 4 ≤ 1291 := by omega
  have hms13 : 0 + 7 + 5 + 18 + 4 + 80 + 4 + 210 + 4 + 800 + 4 + 50 + 4 + 101 ≤ 1291 := by omega
  refine lv_aload_n hx hb dX1_init_0 rfl (lv_at hl 0 rfl) ?_
  refine W.objInit hx hb hown q1 q2 q3 rfl (by rw [hml]; exact hl.1) rfl dX1_init_1 (Nat.le_of_ble_eq_true rfl) (Nat.le_of_ble_eq_true rfl) ?_
  refine W.eq (g2 := F0 m 4 ls []) rfl ?_
  refine lv_aload_n hx hb dX1_init_4 rfl (lv_at hl 0 rfl) ?_
  refine lv_bipush (v := 7) hx hb dX1_init_5 (by decide) ?_
  refine kNewI hx hb q4 hK hP hD hS hA (N := 7) (by decide) (by decide) (Nat.le_of_ble_eq_true rfl) hmc1 hms1 dX1_init_7 (fun q1 H hP hD hS => ?_)
  have hP : va_P D vwCl [(h0, .inr (1, [.null, .null, .null, .null, .null, .null, .null, .null, .int 0, .int 0, .int 0, .int 0, .int 0, .int 0, .int 0, .int 0])), (q1, .inl (cI, 7, .inl (fun _ => 0)))] H := hP
  have hD : va_D A [(h0, .inr (1, [.null, .null, .null, .null, .null, .null, .null, .null, .int 0, .int 0, .int 0, .int 0, .int 0, .int 0, .int 0, .int 0])), (q1, .inl (cI, 7, .inl (fun _ => 0)))] := hD
  refine lv_dup hx hb dX1_init_9 rfl ?_
  refine lv_iconst (v := 0) hx hb dX1_init_10 (by decide) ?_
  refine lv_iconst (v := 5) hx hb dX1_init_11 (by decide) ?_
  refine kAst hx hb hK hP hD hS 1 0 (k := 0) rfl rfl (by unfold vp_in; decide) (by decide) dX1_init_12 (fun H locs hP hD hS => ?_)
  have hP : va_P D vwCl [(h0, .inr (1, [.null, .null, .null, .null, .null, .null, .null, .null, .int 0, .int 0, .int 0, .int 0, .int 0, .int 0, .int 0, .int 0])), (q1, .inl (cI, 7, .inl (upd (fun _ => 0) 0 5)))] H := hP
  have hD : va_D A [(h0, .inr (1, [.null, .null, .null, .null, .null, .null, .null, .null, .int 0, .int 0, .int 0, .int 0, .int 0, .int 0, .int 0, .int 0])), (q1, .inl (cI, 7, .inl (upd (fun _ => 0) 0 5)))] := hD
  refine lv_dup hx hb dX1_init_13 rfl ?_
  refine lv_iconst (v := 1) hx hb dX1_init_14 (by decide) ?_
  refine lv_bipush (v := 8) hx hb dX1_init_15 (by decide) ?_
  refine kAst hx hb hK hP hD hS 1 0 (k := 1) rfl rfl (by unfold vp_in; decide) (by decide) dX1_init_17 (fun H locs hP hD hS => ?_)
  have hP : va_P D vwCl [(h0, .inr (1, [.null, .null, .null, .null, .null, .null, .null, .null, .int 0, .int 0, .int 0, .int 0, .int 0, .int 0, .int 0, .int 0])), (q1, .inl (cI, 7, .inl (upd (upd (fun _ => 0) 0 5) 1 8)))] H := hP
  have hD : va_D A [(h0, .inr (1, [.null, .null, .null, .null, .null, .null, .null, .null, .int 0, .int 0, .int 0, .int 0, .int 0, .int 0, .int 0, .int 0])), (q1, .inl (cI, 7, .inl (upd (upd (fun _ => 0) 0 5) 1 8)))] := hD
  refine lv_dup hx hb dX1_init_18 rfl ?_
  refine lv_iconst (v := 2) hx hb dX1_init_19 (by decide) ?_
  refine lv_iconst (v := 4) hx hb dX1_init_20 (by decide) ?_
  refine kAst hx hb hK hP hD hS 1 0 (k := 2) rfl rfl (by unfold vp_in; decide) (by decide) dX1_init_21 (fun H locs hP hD hS => ?_)
  have hP : va_P D vwCl [(h0, .inr (1, [.null, .null, .null, .null, .null, .null, .null, .null, .int 0, .int 0, .int 0, .int 0, .int 0, .int 0, .int 0, .int 0])), (q1, .inl (cI, 7, .inl (upd (upd (upd (fun _ => 0) 0 5) 1 8) 2 4)))] H := hP
  have hD : va_D A [(h0, .inr (1, [.null, .null, .null, .null, .null, .null, .null, .null, .int 0, .int 0, .int 0, .int 0, .int 0, .int 0, .int 0, .int 0])), (q1, .inl (cI, 7, .inl (upd (upd (upd (fun _ => 0) 0 5) 1 8) 2 4)))] := hD
  refine lv_dup hx hb dX1_init_22 rfl ?_
  refine lv_iconst (v := 3) hx hb dX1_init_23 (by decide) ?_
  refine lv_bipush (v := 10) hx hb dX1_init_24 (by decide) ?_
  refine kAst hx hb hK hP hD hS 1 0 (k := 3) rfl rfl (by unfold vp_in; decide) (by decide) dX1_init_26 (fun H locs hP hD hS => ?_)
  have hP : va_P D vwCl [(h0, .inr (1, [.null, .null, .null, .null, .null, .null, .null, .null, .int 0, .int 0, .int 0, .int 0, .int 0, .int 0, .int 0, .int 0])), (q1, .inl (cI, 7, .inl (upd (upd (upd (upd (fun _ => 0) 0 5) 1 8) 2 4) 3 10)))] H := hP
  have hD : va_D A [(h0, .inr (1, [.null, .null, .null, .null, .null, .null, .null, .null, .int 0, .int 0, .int 0, .int 0, .int 0, .int 0, .int 0, .int 0])), (q1, .inl (cI, 7, .inl (upd (upd (upd (upd (fun _ => 0) 0 5) 1 8) 2 4) 3 10)))] := hD
  refine lv_dup hx hb dX1_init_27 rfl ?_
  refine lv_iconst (v := 4) hx hb dX1_init_28 (by decide) ?_
  refine lv_iconst (v := 5) hx hb dX1_init_29 (by decide) ?_
  refine kAst hx hb hK hP hD hS 1 0 (k := 4) rfl rfl (by unfold vp_in; decide) (by decide) dX1_init_30 (fun H locs hP hD hS => ?_)
  have hP : va_P D vwCl [(h0, .inr (1, [.null, .null, .null, .null, .null, .null, .null, .null, .int 0, .int 0, .int 0, .int 0, .int 0, .int 0, .int 0, .int 0])), (q1, .inl (cI, 7, .inl (upd (upd (upd (upd (upd (fun _ => 0) 0 5) 1 8) 2 4) 3 10) 4 5)))] H := hP
  have hD : va_D A [(h0, .inr (1, [.null, .null, .null, .null, .null, .null, .null, .null, .int 0, .int 0, .int 0, .int 0, .int 0, .int 0, .int 0, .int 0])), (q1, .inl (cI, 7, .inl (upd (upd (upd (upd (upd (fun _ => 0) 0 5) 1 8) 2 4) 3 10) 4 5)))] := hD
  refine lv_dup hx hb dX1_init_31 rfl ?_
  refine lv_iconst (v := 5) hx hb dX1_init_32 (by decide) ?_
  refine lv_bipush (v := 10) hx hb dX1_init_33 (by decide) ?_
  refine kAst hx hb hK hP hD hS 1 0 (k := 5) rfl rfl (by unfold vp_in; decide) (by decide) dX1_init_35 (fun H locs hP hD hS => ?_)
  have hP : va_P D vwCl [(h0, .inr (1, [.null, .null, .null, .null, .null, .null, .null, .null, .int 0, .int 0, .int 0, .int 0, .int 0, .int 0, .int 0, .int 0])), (q1, .inl (cI, 7, .inl (upd (upd (upd (upd (upd (upd (fun _ => 0) 0 5) 1 8) 2 4) 3 10) 4 5) 5 10)))] H := hP
  have hD : va_D A [(h0, .inr (1, [.null, .null, .null, .null, .null, .null, .null, .null, .int 0, .int 0, .int 0, .int 0, .int 0, .int 0, .int 0, .int 0])), (q1, .inl (cI, 7, .inl (upd (upd (upd (upd (upd (upd (fun _ => 0) 0 5) 1 8) 2 4) 3 10) 4 5) 5 10)))] := hD
  refine lv_dup hx hb dX1_init_36 rfl ?_
  refine lv_bipush (v := 6) hx hb dX1_init_37 (by decide) ?_
  refine lv_bipush (v := 50) hx hb dX1_init_39 (by decide) ?_
  refine kAst hx hb hK hP hD hS 1 0 (k := 6) rfl rfl (by unfold vp_in; decide) (by decide) dX1_init_41 (fun H locs hP hD hS => ?_)
  have hP : va_P D vwCl [(h0, .inr (1, [.null, .null, .null, .null, .null, .null, .null, .null, .int 0, .int 0, .int 0, .int 0, .int 0, .int 0, .int 0, .int 0])), (q1, .inl (cI, 7, .inl (upd (upd (upd (upd (upd (upd (upd (fun _ => 0) 0 5) 1 8) 2 4) 3 10) 4 5) 5 10) 6 50)))] H := hP
  have hD : va_D A [(h0, .inr (1, [.null, .null, .null, .null, .null, .null, .null, .null, .int 0, .int 0, .int 0, .int 0, .int 0, .int 0, .int 0, .int 0])), (q1, .inl (cI, 7, .inl (upd (upd (upd (upd (upd (upd (upd (fun _ => 0) 0 5) 1 8) 2 4) 3 10) 4 5) 5 10) 6 50)))] := hD
  refine va_putF (D := D) (ci := 1) (v := .ref q1) (ty := (.array .int)) (C := RX1) (T := TX1) (N := 16) hx hb hts hinX1 tyX1 tyX1_ok nmX1 hown hK hP hD hS 0 rfl rfl 0 (by decide) q5 (fun _ h9 => h9) rfl hini rfl (by decide +kernel) rfl rfl (Nat.le_of_ble_eq_true rfl) dX1_init_42 (fun H locs hP hD hS => ?_)
  have hP : va_P D vwCl [(h0, .inr (1, [.ref q1, .null, .null, .null, .null, .null, .null, .null, .int 0, .int 0, .int 0, .int 0, .int 0, .int 0, .int 0, .int 0])), (q1, .inl (cI, 7, .inl (upd (upd (upd (upd (upd (upd (upd (fun _ => 0) 0 5) 1 8) 2 4) 3 10) 4 5) 5 10) 6 50)))] H := hP
  have hD : va_D A [(h0, .inr (1, [.ref q1, .null, .null, .null, .null, .null, .null, .null, .int 0, .int 0, .int 0, .int 0, .int 0, .int 0, .int 0, .int 0])), (q1, .inl (cI, 7, .inl (upd (upd (upd (upd (upd (upd (upd (fun _ => 0) 0 5) 1 8) 2 4) 3 10) 4 5) 5 10) 6 50)))] := hD
  refine lv_aload_n hx hb dX1_init_45 rfl (lv_at hl 0 rfl) ?_
  refine lv_iconst (v := 5) hx hb dX1_init_46 (by decide) ?_
  refine kNewI hx hb q4 hK hP hD hS hA (N := 5) (by decide) (by decide) (Nat.le_of_ble_eq_true rfl) hmc2 hms2 dX1_init_47 (fun q2 H hP hD hS => ?_)
  have hP : va_P D vwCl [(h0, .inr (1, [.ref q1, .null, .null, .null, .null, .null, .null, .null, .int 0, .int 0, .int 0, .int 0, .int 0, .int 0, .int 0, .int 0])), (q1, .inl (cI, 7, .inl (upd (upd (upd (upd (upd (upd (upd (fun _ => 0) 0 5) 1 8) 2 4) 3 10) 4 5) 5 10) 6 50))), (q2, .inl (cI, 5, .inl (fun _ => 0)))] H := hP
  have hD : va_D A [(h0, .inr (1, [.ref q1, .null, .null, .null, .null, .null, .null, .null, .int 0, .int 0, .int 0, .int 0, .int 0, .int 0, .int 0, .int 0])), (q1, .inl (cI, 7, .inl (upd (upd (upd (upd (upd (upd (upd (fun _ => 0) 0 5) 1 8) 2 4) 3 10) 4 5) 5 10) 6 50))), (q2, .inl (cI, 5, .inl (fun _ => 0)))] := hD
  refine lv_dup hx hb dX1_init_49 rfl ?_
  refine lv_iconst (v := 0) hx hb dX1_init_50 (by decide) ?_
  refine lv_bipush (v := 100) hx hb dX1_init_51 (by decide) ?_
  refine kAst hx hb hK hP hD hS 2 0 (k := 0) rfl rfl (by unfold vp_in; decide) (by decide) dX1_init_53 (fun H locs hP hD hS => ?_)
  have hP : va_P D vwCl [(h0, .inr (1, [.ref q1, .null, .null, .null, .null, .null, .null, .null, .int 0, .int 0, .int 0, .int 0, .int 0, .int 0, .int 0, .int 0])), (q1, .inl (cI, 7, .inl (upd (upd (upd (upd (upd (upd (upd (fun _ => 0) 0 5) 1 8) 2 4) 3 10) 4 5) 5 10) 6 50))), (q2, .inl (cI, 5, .inl (upd (fun _ => 0) 0 100)))] H := hP
  have hD : va_D A [(h0, .inr (1, [.ref q1, .null, .null, .null, .null, .null, .null, .null, .int 0, .int 0, .int 0, .int 0, .int 0, .int 0, .int 0, .int 0])), (q1, .inl (cI, 7, .inl (upd (upd (upd (upd (upd (upd (upd (fun _ => 0) 0 5) 1 8) 2 4) 3 10) 4 5) 5 10) 6 50))), (q2, .inl (cI, 5, .inl (upd (fun _ => 0) 0 100)))] := hD
  refine lv_dup hx hb dX1_init_54 rfl ?_
  refine lv_iconst (v := 1) hx hb dX1_init_55 (by decide) ?_
  refine lv_sipush (v := 200) hx hb dX1_init_56 (by decide) ?_
  refine kAst hx hb hK hP hD hS 2 0 (k := 1) rfl rfl (by unfold vp_in; decide) (by decide) dX1_init_59 (fun H locs hP hD hS => ?_)
  have hP : va_P D vwCl [(h0, .inr (1, [.ref q1, .null, .null, .null, .null, .null, .null, .null, .int 0, .int 0, .int 0, .int 0, .int 0, .int 0, .int 0, .int 0])), (q1, .inl (cI, 7, .inl (upd (upd (upd (upd (upd (upd (upd (fun _ => 0) 0 5) 1 8) 2 4) 3 10) 4 5) 5 10) 6 50))), (q2, .inl (cI, 5, .inl (upd (upd (fun _ => 0) 0 100) 1 200)))] H := hP
  have hD : va_D A [(h0, .inr (1, [.ref q1, .null, .null, .null, .null, .null, .null, .null, .int 0, .int 0, .int 0, .int 0, .int 0, .int 0, .int 0, .int 0])), (q1, .inl (cI, 7, .inl (upd (upd (upd (upd (upd (upd (upd (fun _ => 0) 0 5) 1 8) 2 4) 3 10) 4 5) 5 10) 6 50))), (q2, .inl (cI, 5, .inl (upd (upd (fun _ => 0) 0 100) 1 200)))] := hD
  refine lv_dup hx hb dX1_init_60 rfl ?_
  refine lv_iconst (v := 2) hx hb dX1_init_61 (by decide) ?_
  refine lv_sipush (v := 260) hx hb dX1_init_62 (by decide) ?_
  refine kAst hx hb hK hP hD hS 2 0 (k := 2) rfl rfl (by unfold vp_in; decide) (by decide) dX1_init_65 (fun H locs hP hD hS => ?_)
  have hP : va_P D vwCl [(h0, .inr (1, [.ref q1, .null, .null, .null, .null, .null, .null, .null, .int 0, .int 0, .int 0, .int 0, .int 0, .int 0, .int 0, .int 0])), (q1, .inl (cI, 7, .inl (upd (upd (upd (upd (upd (upd (upd (fun _ => 0) 0 5) 1 8) 2 4) 3 10) 4 5) 5 10) 6 50))), (q2, .inl (cI, 5, .inl (upd (upd (upd (fun _ => 0) 0 100) 1 200) 2 260)))] H := hP
  have hD : va_D A [(h0, .inr (1, [.ref q1, .null, .null, .null, .null, .null, .null, .null, .int 0, .int 0, .int 0, .int 0, .int 0, .int 0, .int 0, .int 0])), (q1, .inl (cI, 7, .inl (upd (upd (upd (upd (upd (upd (upd (fun _ => 0) 0 5) 1 8) 2 4) 3 10) 4 5) 5 10) 6 50))), (q2, .inl (cI, 5, .inl (upd (upd (upd (fun _ => 0) 0 100) 1 200) 2 260)))] := hD
  refine lv_dup hx hb dX1_init_66 rfl ?_
  refine lv_iconst (v := 3) hx hb dX1_init_67 (by decide) ?_
  refine lv_sipush (v := 400) hx hb dX1_init_68 (by decide) ?_
  refine kAst hx hb hK hP hD hS 2 0 (k := 3) rfl rfl (by unfold vp_in; decide) (by decide) dX1_init_71 (fun H locs hP hD hS => ?_)
  have hP : va_P D vwCl [(h0, .inr (1, [.ref q1, .null, .null, .null, .null, .null, .null, .null, .int 0, .int 0, .int 0, .int 0, .int 0, .int 0, .int 0, .int 0])), (q1, .inl (cI, 7, .inl (upd (upd (upd (upd (upd (upd (upd (fun _ => 0) 0 5) 1 8) 2 4) 3 10) 4 5) 5 10) 6 50))), (q2, .inl (cI, 5, .inl (upd (upd (upd (upd (fun _ => 0) 0 100) 1 200) 2 260) 3 400)))] H := hP
  have hD : va_D A [(h0, .inr (1, [.ref q1, .null, .null, .null, .null, .null, .null, .null, .int 0, .int 0, .int 0, .int 0, .int 0, .int 0, .int 0, .int 0])), (q1, .inl (cI, 7, .inl (upd (upd (upd (upd (upd (upd (upd (fun _ => 0) 0 5) 1 8) 2 4) 3 10) 4 5) 5 10) 6 50))), (q2, .inl (cI, 5, .inl (upd (upd (upd (upd (fun _ => 0) 0 100) 1 200) 2 260) 3 400)))] := hD
  refine lv_dup hx hb dX1_init_72 rfl ?_
  refine lv_iconst (v := 4) hx hb dX1_init_73 (by decide) ?_
  refine lv_sipush (v := 500) hx hb dX1_init_74 (by decide) ?_
  refine kAst hx hb hK hP hD hS 2 0 (k := 4) rfl rfl (by unfold vp_in; decide) (by decide) dX1_init_77 (fun H locs hP hD hS => ?_)
  have hP : va_P D vwCl [(h0, .inr (1, [.ref q1, .null, .null, .null, .null, .null, .null, .null, .int 0, .int 0, .int 0, .int 0, .int 0, .int 0, .int 0, .int 0])), (q1, .inl (cI, 7, .inl (upd (upd (upd (upd (upd (upd (upd (fun _ => 0) 0 5) 1 8) 2 4) 3 10) 4 5) 5 10) 6 50))), (q2, .inl (cI, 5, .inl (upd (upd (upd (upd (upd (fun _ => 0) 0 100) 1 200) 2 260) 3 400) 4 500)))] H := hP
  have hD : va_D A [(h0, .inr (1, [.ref q1, .null, .null, .null, .null, .null, .null, .null, .int 0, .int 0, .int 0, .int 0, .int 0, .int 0, .int 0, .int 0])), (q1, .inl (cI, 7, .inl (upd (upd (upd (upd (upd (upd (upd (fun _ => 0) 0 5) 1 8) 2 4) 3 10) 4 5) 5 10) 6 50))), (q2, .inl (cI, 5, .inl (upd (upd (upd (upd (upd (fun _ => 0) 0 100) 1 200) 2 260) 3 400) 4 500)))] := hD
  refine va_putF (D := D) (ci := 1) (v := .ref q2) (ty := (.array .int)) (C := RX1) (T := TX1) (N := 16) hx hb hts hinX1 tyX1 tyX1_ok nmX1 hown hK hP hD hS 0 rfl rfl 1 (by decide) q6 (fun _ h9 => h9) rfl hini rfl (by decide +kernel) rfl rfl (Nat.le_of_ble_eq_true rfl) dX1_init_78 (fun H locs hP hD hS => ?_)
  have hP : va_P D vwCl [(h0, .inr (1, [.ref q1, .ref q2, .null, .null, .null, .null, .null, .null, .int 0, .int 0, .int 0, .int 0, .int 0, .int 0, .int 0, .int 0])), (q1, .inl (cI, 7, .inl (upd (upd (upd (upd (upd (upd (upd (fun _ => 0) 0 5) 1 8) 2 4) 3 10) 4 5) 5 10) 6 50))), (q2, .inl (cI, 5, .inl (upd (upd (upd (upd (upd (fun _ => 0) 0 100) 1 200) 2 260) 3 400) 4 500)))] H := hP
  have hD : va_D A [(h0, .inr (1, [.ref q1, .ref q2, .null, .null, .null, .null, .null, .null, .int 0, .int 0, .int 0, .int 0, .int 0, .int 0, .int 0, .int 0])), (q1, .inl (cI, 7, .inl (upd (upd (upd (upd (upd (upd (upd (fun _ => 0) 0 5) 1 8) 2 4) 3 10) 4 5) 5 10) 6 50))), (q2, .inl (cI, 5, .inl (upd (upd (upd (upd (upd (fun _ => 0) 0 100) 1 200) 2 260) 3 400) 4 500)))] := hD
  refine lv_aload_n hx hb dX1_init_81 rfl (lv_at hl 0 rfl) ?_
  refine lv_bipush (v := 18) hx hb dX1_init_82 (by decide) ?_
  refine kNewI hx hb q4 hK hP hD hS hA (N := 18) (by decide) (by decide) (Nat.le_of_ble_eq_true rfl) hmc3 hms3 dX1_init_84 (fun q3 H hP hD hS => ?_)
  have hP : va_P D vwCl [(h0, .inr (1, [.ref q1, .ref q2, .null, .null, .null, .null, .null, .null, .int 0, .int 0, .int 0, .int 0, .int 0, .int 0, .int 0, .int 0])), (q1, .inl (cI, 7, .inl (upd (upd (upd (upd (upd (upd (upd (fun _ => 0) 0 5) 1 8) 2 4) 3 10) 4 5) 5 10) 6 50))), (q2, .inl (cI, 5, .inl (upd (upd (upd (upd (upd (fun _ => 0) 0 100) 1 200) 2 260) 3 400) 4 500))), (q3, .inl (cI, 18, .inl (fun _ => 0)))] H := hP
  have hD : va_D A [(h0, .inr (1, [.ref q1, .ref q2, .null, .null, .null, .null, .null, .null, .int 0, .int 0, .int 0, .int 0, .int 0, .int 0, .int 0, .int 0])), (q1, .inl (cI, 7, .inl (upd (upd (upd (upd (upd (upd (upd (fun _ => 0) 0 5) 1 8) 2 4) 3 10) 4 5) 5 10) 6 50))), (q2, .inl (cI, 5, .inl (upd (upd (upd (upd (upd (fun _ => 0) 0 100) 1 200) 2 260) 3 400) 4 500))), (q3, .inl (cI, 18, .inl (fun _ => 0)))] := hD
  refine va_putF (D := D) (ci := 1) (v := .ref q3) (ty := (.array .int)) (C := RX1) (T := TX1) (N := 16) hx hb hts hinX1 tyX1 tyX1_ok nmX1 hown hK hP hD hS 0 rfl rfl 2 (by decide) q7 (fun _ h9 => h9) rfl hini rfl (by decide +kernel) rfl rfl (Nat.le_of_ble_eq_true rfl) dX1_init_86 (fun H locs hP hD hS => ?_)
  have hP : va_P D vwCl [(h0, .inr (1, [.ref q1, .ref q2, .ref q3, .null, .null, .null, .null, .null, .int 0, .int 0, .int 0, .int 0, .int 0, .int 0, .int 0, .int 0])), (q1, .inl (cI, 7, .inl (upd (upd (upd (upd (upd (upd (upd (fun _ => 0) 0 5) 1 8) 2 4) 3 10) 4 5) 5 10) 6 50))), (q2, .inl (cI, 5, .inl (upd (upd (upd (upd (upd (fun _ => 0) 0 100) 1 200) 2 260) 3 400) 4 500))), (q3, .inl (cI, 18, .inl (fun _ => 0)))] H := hP
  have hD : va_D A [(h0, .inr (1, [.ref q1, .ref q2, .ref q3, .null, .null, .null, .null, .null, .int 0, .int 0, .int 0, .int 0, .int 0, .int 0, .int 0, .int 0])), (q1, .inl (cI, 7, .inl (upd (upd (upd (upd (upd (upd (upd (fun _ => 0) 0 5) 1 8) 2 4) 3 10) 4 5) 5 10) 6 50))), (q2, .inl (cI, 5, .inl (upd (upd (upd (upd (upd (fun _ => 0) 0 100) 1 200) 2 260) 3 400) 4 500))), (q3, .inl (cI, 18, .inl (fun _ => 0)))] := hD
  refine lv_aload_n hx hb dX1_init_89 rfl (lv_at hl 0 rfl) ?_
  refine va_new (D := D) (cl := vwCl) (ci := 2) (fs := [.int 0, .int 0, .null, .int 0]) (C := RX2) (T := TX2) (N := 4) hx hb hts hinX2 tyX2 tyX2_ok hown q8 q9 q10 hK hP hD hS hA rfl (by intro j hj; rcases (show j = 0 ∨ j = 1 ∨ j = 2 ∨ j = 3 by omega) with rfl | rfl | rfl | rfl <;> rfl) hmc4 hms4 dX1_init_90 (fun o4 H hP hD hS => ?_)
  have hP : va_P D vwCl [(h0, .inr (1, [.ref q1, .ref q2, .ref q3, .null, .null, .null, .null, .null, .int 0, .int 0, .int 0, .int 0, .int 0, .int 0, .int 0, .int 0])), (q1, .inl (cI, 7, .inl (upd (upd (upd (upd (upd (upd (upd (fun _ => 0) 0 5) 1 8) 2 4) 3 10) 4 5) 5 10) 6 50))), (q2, .inl (cI, 5, .inl (upd (upd (upd (upd (upd (fun _ => 0) 0 100) 1 200) 2 260) 3 400) 4 500))), (q3, .inl (cI, 18, .inl (fun _ => 0))), (o4, .inr (2, [.int 0, .int 0, .null, .int 0]))] H := hP
  have hD : va_D A [(h0, .inr (1, [.ref q1, .ref q2, .ref q3, .null, .null, .null, .null, .null, .int 0, .int 0, .int 0, .int 0, .int 0, .int 0, .int 0, .int 0])), (q1, .inl (cI, 7, .inl (upd (upd (upd (upd (upd (upd (upd (fun _ => 0) 0 5) 1 8) 2 4) 3 10) 4 5) 5 10) 6 50))), (q2, .inl (cI, 5, .inl (upd (upd (upd (upd (upd (fun _ => 0) 0 100) 1 200) 2 260) 3 400) 4 500))), (q3, .inl (cI, 18, .inl (fun _ => 0))), (o4, .inr (2, [.int 0, .int 0, .null, .int 0]))] := hD
  refine lv_dup hx hb dX1_init_93 rfl ?_
  refine lv_iconst (v := 4) hx hb dX1_init_94 (by decide) ?_
  refine lv_bipush (v := 20) hx hb dX1_init_95 (by decide) ?_
  refine kcC (mc := 1) (ms := 80) (As := [.int 4, .int 20]) (rest := [.ref o4, .ref h0]) E.1 (cx2_init E o4 4 20 80 (by decide) (by decide) (by decide) (by decide) (Nat.le_of_ble_eq_true rfl)) hX (cwI 2 hts gX1_init_X2_init rfl rfl rfl q10 q24 q25 rfl (by decide +kernel) ⟨Nat.le_of_ble_eq_true rfl, Nat.le_of_ble_eq_true rfl⟩) hKs hP hD hS hA [(h0, .inr (1, [.ref q1, .ref q2, .ref q3, .null, .null, .null, .null, .null, .int 0, .int 0, .int 0, .int 0, .int 0, .int 0, .int 0, .int 0])), (q1, .inl (cI, 7, .inl (upd (upd (upd (upd (upd (upd (upd (fun _ => 0) 0 5) 1 8) 2 4) 3 10) 4 5) 5 10) 6 50))), (q2, .inl (cI, 5, .inl (upd (upd (upd (upd (upd (fun _ => 0) 0 100) 1 200) 2 260) 3 400) 4 500))), (q3, .inl (cI, 18, .inl (fun _ => 0)))] [] (wi := [(o4, .inr (2, [.int 0, .int 0, .null, .int 0]))]) (by first | rfl | (simp only [List.append_assoc]; rfl)) rfl rfl hl.1 (Nat.le_of_ble_eq_true rfl) dX1_init_97 ⟨hmc5, hms5⟩ (fun w2 g2 H locs hP hD hS => ?_)
  obtain ⟨c5, rfl⟩ := g2
  have hP : va_P D vwCl [(h0, .inr (1, [.ref q1, .ref q2, .ref q3, .null, .null, .null, .null, .null, .int 0, .int 0, .int 0, .int 0, .int 0, .int 0, .int 0, .int 0])), (q1, .inl (cI, 7, .inl (upd (upd (upd (upd (upd (upd (upd (fun _ => 0) 0 5) 1 8) 2 4) 3 10) 4 5) 5 10) 6 50))), (q2, .inl (cI, 5, .inl (upd (upd (upd (upd (upd (fun _ => 0) 0 100) 1 200) 2 260) 3 400) 4 500))), (q3, .inl (cI, 18, .inl (fun _ => 0))), (o4, .inr (2, [.int 4, .int 20, .ref c5, .int 0])), (c5, .inl (cI, 80, .inl (fun _ => 0)))] H := hP
  have hD : va_D A [(h0, .inr (1, [.ref q1, .ref q2, .ref q3, .null, .null, .null, .null, .null, .int 0, .int 0, .int 0, .int 0, .int 0, .int 0, .int 0, .int 0])), (q1, .inl (cI, 7, .inl (upd (upd (upd (upd (upd (upd (upd (fun _ => 0) 0 5) 1 8) 2 4) 3 10) 4 5) 5 10) 6 50))), (q2, .inl (cI, 5, .inl (upd (upd (upd (upd (upd (fun _ => 0) 0 100) 1 200) 2 260) 3 400) 4 500))), (q3, .inl (cI, 18, .inl (fun _ => 0))), (o4, .inr (2, [.int 4, .int 20, .ref c5, .int 0])), (c5, .inl (cI, 80, .inl (fun _ => 0)))] := hD
  refine va_putF (D := D) (ci := 1) (v := .ref o4) (ty := (.object "LabelStation$Table")) (C := RX1) (T := TX1) (N := 16) hx hb hts hinX1 tyX1 tyX1_ok nmX1 hown hK hP hD hS 0 rfl rfl 3 (by decide) q11 (fun _ h9 => h9) rfl hini rfl (by decide +kernel) rfl rfl (Nat.le_of_ble_eq_true rfl) dX1_init_100 (fun H locs hP hD hS => ?_)
  have hP : va_P D vwCl [(h0, .inr (1, [.ref q1, .ref q2, .ref q3, .ref o4, .null, .null, .null, .null, .int 0, .int 0, .int 0, .int 0, .int 0, .int 0, .int 0, .int 0])), (q1, .inl (cI, 7, .inl (upd (upd (upd (upd (upd (upd (upd (fun _ => 0) 0 5) 1 8) 2 4) 3 10) 4 5) 5 10) 6 50))), (q2, .inl (cI, 5, .inl (upd (upd (upd (upd (upd (fun _ => 0) 0 100) 1 200) 2 260) 3 400) 4 500))), (q3, .inl (cI, 18, .inl (fun _ => 0))), (o4, .inr (2, [.int 4, .int 20, .ref c5, .int 0])), (c5, .inl (cI, 80, .inl (fun _ => 0)))] H := hP
  have hD : va_D A [(h0, .inr (1, [.ref q1, .ref q2, .ref q3, .ref o4, .null, .null, .null, .null, .int 0, .int 0, .int 0, .int 0, .int 0, .int 0, .int 0, .int 0])), (q1, .inl (cI, 7, .inl (upd (upd (upd (upd (upd (upd (upd (fun _ => 0) 0 5) 1 8) 2 4) 3 10) 4 5) 5 10) 6 50))), (q2, .inl (cI, 5, .inl (upd (upd (upd (upd (upd (fun _ => 0) 0 100) 1 200) 2 260) 3 400) 4 500))), (q3, .inl (cI, 18, .inl (fun _ => 0))), (o4, .inr (2, [.int 4, .int 20, .ref c5, .int 0])), (c5, .inl (cI, 80, .inl (fun _ => 0)))] := hD
  refine lv_aload_n hx hb dX1_init_103 rfl (lv_at hl 0 rfl) ?_
  refine va_new (D := D) (cl := vwCl) (ci := 2) (fs := [.int 0, .int 0, .null, .int 0]) (C := RX2) (T := TX2) (N := 4) hx hb hts hinX2 tyX2 tyX2_ok hown q8 q9 q10 hK hP hD hS hA rfl (by intro j hj; rcases (show j = 0 ∨ j = 1 ∨ j = 2 ∨ j = 3 by omega) with rfl | rfl | rfl | rfl <;> rfl) hmc6 hms6 dX1_init_104 (fun o6 H hP hD hS => ?_)
  have hP : va_P D vwCl [(h0, .inr (1, [.ref q1, .ref q2, .ref q3, .ref o4, .null, .null, .null, .null, .int 0, .int 0, .int 0, .int 0, .int 0, .int 0, .int 0, .int 0])), (q1, .inl (cI, 7, .inl (upd (upd (upd (upd (upd (upd (upd (fun _ => 0) 0 5) 1 8) 2 4) 3 10) 4 5) 5 10) 6 50))), (q2, .inl (cI, 5, .inl (upd (upd (upd (upd (upd (fun _ => 0) 0 100) 1 200) 2 260) 3 400) 4 500))), (q3, .inl (cI, 18, .inl (fun _ => 0))), (o4, .inr (2, [.int 4, .int 20, .ref c5, .int 0])), (c5, .inl (cI, 80, .inl (fun _ => 0))), (o6, .inr (2, [.int 0, .int 0, .null, .int 0]))] H := hP
  have hD : va_D A [(h0, .inr (1, [.ref q1, .ref q2, .ref q3, .ref o4, .null, .null, .null, .null, .int 0, .int 0, .int 0, .int 0, .int 0, .int 0, .int 0, .int 0])), (q1, .inl (cI, 7, .inl (upd (upd (upd (upd (upd (upd (upd (fun _ => 0) 0 5) 1 8) 2 4) 3 10) 4 5) 5 10) 6 50))), (q2, .inl (cI, 5, .inl (upd (upd (upd (upd (upd (fun _ => 0) 0 100) 1 200) 2 260) 3 400) 4 500))), (q3, .inl (cI, 18, .inl (fun _ => 0))), (o4, .inr (2, [.int 4, .int 20, .ref c5, .int 0])), (c5, .inl (cI, 80, .inl (fun _ => 0))), (o6, .inr (2, [.int 0, .int 0, .null, .int 0]))] := hD
  refine lv_dup hx hb dX1_init_107 rfl ?_
  refine lv_bipush (v := 6) hx hb dX1_init_108 (by decide) ?_
  refine lv_bipush (v := 35) hx hb dX1_init_110 (by decide) ?_
  refine kcC (mc := 1) (ms := 210) (As := [.int 6, .int 35]) (rest := [.ref o6, .ref h0]) E.1 (cx2_init E o6 6 35 210 (by decide) (by decide) (by decide) (by decide) (Nat.le_of_ble_eq_true rfl)) hX (cwI 2 hts gX1_init_X2_init rfl rfl rfl q10 q24 q25 rfl (by decide +kernel) ⟨Nat.le_of_ble_eq_true rfl, Nat.le_of_ble_eq_true rfl⟩) hKs hP hD hS hA [(h0, .inr (1, [.ref q1, .ref q2, .ref q3, .ref o4, .null, .null, .null, .null, .int 0, .int 0, .int 0, .int 0, .int 0, .int 0, .int 0, .int 0])), (q1, .inl (cI, 7, .inl (upd (upd (upd (upd (upd (upd (upd (fun _ => 0) 0 5) 1 8) 2 4) 3 10) 4 5) 5 10) 6 50))), (q2, .inl (cI, 5, .inl (upd (upd (upd (upd (upd (fun _ => 0) 0 100) 1 200) 2 260) 3 400) 4 500))), (q3, .inl (cI, 18, .inl (fun _ => 0))), (o4, .inr (2, [.int 4, .int 20, .ref c5, .int 0])), (c5, .inl (cI, 80, .inl (fun _ => 0)))] [] (wi := [(o6, .inr (2, [.int 0, .int 0, .null, .int 0]))]) (by first | rfl | (simp only [List.append_assoc]; rfl)) rfl rfl hl.1 (Nat.le_of_ble_eq_true rfl) dX1_init_112 ⟨hmc7, hms7⟩ (fun w2 g2 H locs hP hD hS => ?_)
  obtain ⟨c7, rfl⟩ := g2
  have hP : va_P D vwCl [(h0, .inr (1, [.ref q1, .ref q2, .ref q3, .ref o4, .null, .null, .null, .null, .int 0, .int 0, .int 0, .int 0, .int 0, .int 0, .int 0, .int 0])), (q1, .inl (cI, 7, .inl (upd (upd (upd (upd (upd (upd (upd (fun _ => 0) 0 5) 1 8) 2 4) 3 10) 4 5) 5 10) 6 50))), (q2, .inl (cI, 5, .inl (upd (upd (upd (upd (upd (fun _ => 0) 0 100) 1 200) 2 260) 3 400) 4 500))), (q3, .inl (cI, 18, .inl (fun _ => 0))), (o4, .inr (2, [.int 4, .int 20, .ref c5, .int 0])), (c5, .inl (cI, 80, .inl (fun _ => 0))), (o6, .inr (2, [.int 6, .int 35, .ref c7, .int 0])), (c7, .inl (cI, 210, .inl (fun _ => 0)))] H := hP
  have hD : va_D A [(h0, .inr (1, [.ref q1, .ref q2, .ref q3, .ref o4, .null, .null, .null, .null, .int 0, .int 0, .int 0, .int 0, .int 0, .int 0, .int 0, .int 0])), (q1, .inl (cI, 7, .inl (upd (upd (upd (upd (upd (upd (upd (fun _ => 0) 0 5) 1 8) 2 4) 3 10) 4 5) 5 10) 6 50))), (q2, .inl (cI, 5, .inl (upd (upd (upd (upd (upd (fun _ => 0) 0 100) 1 200) 2 260) 3 400) 4 500))), (q3, .inl (cI, 18, .inl (fun _ => 0))), (o4, .inr (2, [.int 4, .int 20, .ref c5, .int 0])), (c5, .inl (cI, 80, .inl (fun _ => 0))), (o6, .inr (2, [.int 6, .int 35, .ref c7, .int 0])), (c7, .inl (cI, 210, .inl (fun _ => 0)))] := hD
  refine va_putF (D := D) (ci := 1) (v := .ref o6) (ty := (.object "LabelStation$Table")) (C := RX1) (T := TX1) (N := 16) hx hb hts hinX1 tyX1 tyX1_ok nmX1 hown hK hP hD hS 0 rfl rfl 4 (by decide) q12 (fun _ h9 => h9) rfl hini rfl (by decide +kernel) rfl rfl (Nat.le_of_ble_eq_true rfl) dX1_init_115 (fun H locs hP hD hS => ?_)
  have hP : va_P D vwCl [(h0, .inr (1, [.ref q1, .ref q2, .ref q3, .ref o4, .ref o6, .null, .null, .null, .int 0, .int 0, .int 0, .int 0, .int 0, .int 0, .int 0, .int 0])), (q1, .inl (cI, 7, .inl (upd (upd (upd (upd (upd (upd (upd (fun _ => 0) 0 5) 1 8) 2 4) 3 10) 4 5) 5 10) 6 50))), (q2, .inl (cI, 5, .inl (upd (upd (upd (upd (upd (fun _ => 0) 0 100) 1 200) 2 260) 3 400) 4 500))), (q3, .inl (cI, 18, .inl (fun _ => 0))), (o4, .inr (2, [.int 4, .int 20, .ref c5, .int 0])), (c5, .inl (cI, 80, .inl (fun _ => 0))), (o6, .inr (2, [.int 6, .int 35, .ref c7, .int 0])), (c7, .inl (cI, 210, .inl (fun _ => 0)))] H := hP
  have hD : va_D A [(h0, .inr (1, [.ref q1, .ref q2, .ref q3, .ref o4, .ref o6, .null, .null, .null, .int 0, .int 0, .int 0, .int 0, .int 0, .int 0, .int 0, .int 0])), (q1, .inl (cI, 7, .inl (upd (upd (upd (upd (upd (upd (upd (fun _ => 0) 0 5) 1 8) 2 4) 3 10) 4 5) 5 10) 6 50))), (q2, .inl (cI, 5, .inl (upd (upd (upd (upd (upd (fun _ => 0) 0 100) 1 200) 2 260) 3 400) 4 500))), (q3, .inl (cI, 18, .inl (fun _ => 0))), (o4, .inr (2, [.int 4, .int 20, .ref c5, .int 0])), (c5, .inl (cI, 80, .inl (fun _ => 0))), (o6, .inr (2, [.int 6, .int 35, .ref c7, .int 0])), (c7, .inl (cI, 210, .inl (fun _ => 0)))] := hD
  refine lv_aload_n hx hb dX1_init_118 rfl (lv_at hl 0 rfl) ?_
  refine va_new (D := D) (cl := vwCl) (ci := 2) (fs := [.int 0, .int 0, .null, .int 0]) (C := RX2) (T := TX2) (N := 4) hx hb hts hinX2 tyX2 tyX2_ok hown q8 q9 q10 hK hP hD hS hA rfl (by intro j hj; rcases (show j = 0 ∨ j = 1 ∨ j = 2 ∨ j = 3 by omega) with rfl | rfl | rfl | rfl <;> rfl) hmc8 hms8 dX1_init_119 (fun o8 H hP hD hS => ?_)
  have hP : va_P D vwCl [(h0, .inr (1, [.ref q1, .ref q2, .ref q3, .ref o4, .ref o6, .null, .null, .null, .int 0, .int 0, .int 0, .int 0, .int 0, .int 0, .int 0, .int 0])), (q1, .inl (cI, 7, .inl (upd (upd (upd (upd (upd (upd (upd (fun _ => 0) 0 5) 1 8) 2 4) 3 10) 4 5) 5 10) 6 50))), (q2, .inl (cI, 5, .inl (upd (upd (upd (upd (upd (fun _ => 0) 0 100) 1 200) 2 260) 3 400) 4 500))), (q3, .inl (cI, 18, .inl (fun _ => 0))), (o4, .inr (2, [.int 4, .int 20, .ref c5, .int 0])), (c5, .inl (cI, 80, .inl (fun _ => 0))), (o6, .inr (2, [.int 6, .int 35, .ref c7, .int 0])), (c7, .inl (cI, 210, .inl (fun _ => 0))), (o8, .inr (2, [.int 0, .int 0, .null, .int 0]))] H := hP
  have hD : va_D A [(h0, .inr (1, [.ref q1, .ref q2, .ref q3, .ref o4, .ref o6, .null, .null, .null, .int 0, .int 0, .int 0, .int 0, .int 0, .int 0, .int 0, .int 0])), (q1, .inl (cI, 7, .inl (upd (upd (upd (upd (upd (upd (upd (fun _ => 0) 0 5) 1 8) 2 4) 3 10) 4 5) 5 10) 6 50))), (q2, .inl (cI, 5, .inl (upd (upd (upd (upd (upd (fun _ => 0) 0 100) 1 200) 2 260) 3 400) 4 500))), (q3, .inl (cI, 18, .inl (fun _ => 0))), (o4, .inr (2, [.int 4, .int 20, .ref c5, .int 0])), (c5, .inl (cI, 80, .inl (fun _ => 0))), (o6, .inr (2, [.int 6, .int 35, .ref c7, .int 0])), (c7, .inl (cI, 210, .inl (fun _ => 0))), (o8, .inr (2, [.int 0, .int 0, .null, .int 0]))] := hD
  refine lv_dup hx hb dX1_init_122 rfl ?_
  refine lv_iconst (v := 4) hx hb dX1_init_123 (by decide) ?_
  refine lv_sipush (v := 200) hx hb dX1_init_124 (by decide) ?_
  refine kcC (mc := 1) (ms := 800) (As := [.int 4, .int 200]) (rest := [.ref o8, .ref h0]) E.1 (cx2_init E o8 4 200 800 (by decide) (by decide) (by decide) (by decide) (Nat.le_of_ble_eq_true rfl)) hX (cwI 2 hts gX1_init_X2_init rfl rfl rfl q10 q24 q25 rfl (by decide +kernel) ⟨Nat.le_of_ble_eq_true rfl, Nat.le_of_ble_eq_true rfl⟩) hKs hP hD hS hA [(h0, .inr (1, [.ref q1, .ref q2, .ref q3, .ref o4, .ref o6, .null, .null, .null, .int 0, .int 0, .int 0, .int 0, .int 0, .int 0, .int 0, .int 0])), (q1, .inl (cI, 7, .inl (upd (upd (upd (upd (upd (upd (upd (fun _ => 0) 0 5) 1 8) 2 4) 3 10) 4 5) 5 10) 6 50))), (q2, .inl (cI, 5, .inl (upd (upd (upd (upd (upd (fun _ => 0) 0 100) 1 200) 2 260) 3 400) 4 500))), (q3, .inl (cI, 18, .inl (fun _ => 0))), (o4, .inr (2, [.int 4, .int 20, .ref c5, .int 0])), (c5, .inl (cI, 80, .inl (fun _ => 0))), (o6, .inr (2, [.int 6, .int 35, .ref c7, .int 0])), (c7, .inl (cI, 210, .inl (fun _ => 0)))] [] (wi := [(o8, .inr (2, [.int 0, .int 0, .null, .int 0]))]) (by first | rfl | (simp only [List.append_assoc]; rfl)) rfl rfl hl.1 (Nat.le_of_ble_eq_true rfl) dX1_init_127 ⟨hmc9, hms9⟩ (fun w2 g2 H locs hP hD hS => ?_)
  obtain ⟨c9, rfl⟩ := g2
  have hP : va_P D vwCl [(h0, .inr (1, [.ref q1, .ref q2, .ref q3, .ref o4, .ref o6, .null, .null, .null, .int 0, .int 0, .int 0, .int 0, .int 0, .int 0, .int 0, .int 0])), (q1, .inl (cI, 7, .inl (upd (upd (upd (upd (upd (upd (upd (fun _ => 0) 0 5) 1 8) 2 4) 3 10) 4 5) 5 10) 6 50))), (q2, .inl (cI, 5, .inl (upd (upd (upd (upd (upd (fun _ => 0) 0 100) 1 200) 2 260) 3 400) 4 500))), (q3, .inl (cI, 18, .inl (fun _ => 0))), (o4, .inr (2, [.int 4, .int 20, .ref c5, .int 0])), (c5, .inl (cI, 80, .inl (fun _ => 0))), (o6, .inr (2, [.int 6, .int 35, .ref c7, .int 0])), (c7, .inl (cI, 210, .inl (fun _ => 0))), (o8, .inr (2, [.int 4, .int 200, .ref c9, .int 0])), (c9, .inl (cI, 800, .inl (fun _ => 0)))] H := hP
  have hD : va_D A [(h0, .inr (1, [.ref q1, .ref q2, .ref q3, .ref o4, .ref o6, .null, .null, .null, .int 0, .int 0, .int 0, .int 0, .int 0, .int 0, .int 0, .int 0])), (q1, .inl (cI, 7, .inl (upd (upd (upd (upd (upd (upd (upd (fun _ => 0) 0 5) 1 8) 2 4) 3 10) 4 5) 5 10) 6 50))), (q2, .inl (cI, 5, .inl (upd (upd (upd (upd (upd (fun _ => 0) 0 100) 1 200) 2 260) 3 400) 4 500))), (q3, .inl (cI, 18, .inl (fun _ => 0))), (o4, .inr (2, [.int 4, .int 20, .ref c5, .int 0])), (c5, .inl (cI, 80, .inl (fun _ => 0))), (o6, .inr (2, [.int 6, .int 35, .ref c7, .int 0])), (c7, .inl (cI, 210, .inl (fun _ => 0))), (o8, .inr (2, [.int 4, .int 200, .ref c9, .int 0])), (c9, .inl (cI, 800, .inl (fun _ => 0)))] := hD
  refine va_putF (D := D) (ci := 1) (v := .ref o8) (ty := (.object "LabelStation$Table")) (C := RX1) (T := TX1) (N := 16) hx hb hts hinX1 tyX1 tyX1_ok nmX1 hown hK hP hD hS 0 rfl rfl 5 (by decide) q13 (fun _ h9 => h9) rfl hini rfl (by decide +kernel) rfl rfl (Nat.le_of_ble_eq_true rfl) dX1_init_130 (fun H locs hP hD hS => ?_)
  have hP : va_P D vwCl [(h0, .inr (1, [.ref q1, .ref q2, .ref q3, .ref o4, .ref o6, .ref o8, .null, .null, .int 0, .int 0, .int 0, .int 0, .int 0, .int 0, .int 0, .int 0])), (q1, .inl (cI, 7, .inl (upd (upd (upd (upd (upd (upd (upd (fun _ => 0) 0 5) 1 8) 2 4) 3 10) 4 5) 5 10) 6 50))), (q2, .inl (cI, 5, .inl (upd (upd (upd (upd (upd (fun _ => 0) 0 100) 1 200) 2 260) 3 400) 4 500))), (q3, .inl (cI, 18, .inl (fun _ => 0))), (o4, .inr (2, [.int 4, .int 20, .ref c5, .int 0])), (c5, .inl (cI, 80, .inl (fun _ => 0))), (o6, .inr (2, [.int 6, .int 35, .ref c7, .int 0])), (c7, .inl (cI, 210, .inl (fun _ => 0))), (o8, .inr (2, [.int 4, .int 200, .ref c9, .int 0])), (c9, .inl (cI, 800, .inl (fun _ => 0)))] H := hP
  have hD : va_D A [(h0, .inr (1, [.ref q1, .ref q2, .ref q3, .ref o4, .ref o6, .ref o8, .null, .null, .int 0, .int 0, .int 0, .int 0, .int 0, .int 0, .int 0, .int 0])), (q1, .inl (cI, 7, .inl (upd (upd (upd (upd (upd (upd (upd (fun _ => 0) 0 5) 1 8) 2 4) 3 10) 4 5) 5 10) 6 50))), (q2, .inl (cI, 5, .inl (upd (upd (upd (upd (upd (fun _ => 0) 0 100) 1 200) 2 260) 3 400) 4 500))), (q3, .inl (cI, 18, .inl (fun _ => 0))), (o4, .inr (2, [.int 4, .int 20, .ref c5, .int 0])), (c5, .inl (cI, 80, .inl (fun _ => 0))), (o6, .inr (2, [.int 6, .int 35, .ref c7, .int 0])), (c7, .inl (cI, 210, .inl (fun _ => 0))), (o8, .inr (2, [.int 4, .int 200, .ref c9, .int 0])), (c9, .inl (cI, 800, .inl (fun _ => 0)))] := hD
  refine lv_aload_n hx hb dX1_init_133 rfl (lv_at hl 0 rfl) ?_
  refine va_new (D := D) (cl := vwCl) (ci := 2) (fs := [.int 0, .int 0, .null, .int 0]) (C := RX2) (T := TX2) (N := 4) hx hb hts hinX2 tyX2 tyX2_ok hown q8 q9 q10 hK hP hD hS hA rfl (by intro j hj; rcases (show j = 0 ∨ j = 1 ∨ j = 2 ∨ j = 3 by omega) with rfl | rfl | rfl | rfl <;> rfl) hmc10 hms10 dX1_init_134 (fun o10 H hP hD hS => ?_)
  have hP : va_P D vwCl [(h0, .inr (1, [.ref q1, .ref q2, .ref q3, .ref o4, .ref o6, .ref o8, .null, .null, .int 0, .int 0, .int 0, .int 0, .int 0, .int 0, .int 0, .int 0])), (q1, .inl (cI, 7, .inl (upd (upd (upd (upd (upd (upd (upd (fun _ => 0) 0 5) 1 8) 2 4) 3 10) 4 5) 5 10) 6 50))), (q2, .inl (cI, 5, .inl (upd (upd (upd (upd (upd (fun _ => 0) 0 100) 1 200) 2 260) 3 400) 4 500))), (q3, .inl (cI, 18, .inl (fun _ => 0))), (o4, .inr (2, [.int 4, .int 20, .ref c5, .int 0])), (c5, .inl (cI, 80, .inl (fun _ => 0))), (o6, .inr (2, [.int 6, .int 35, .ref c7, .int 0])), (c7, .inl (cI, 210, .inl (fun _ => 0))), (o8, .inr (2, [.int 4, .int 200, .ref c9, .int 0])), (c9, .inl (cI, 800, .inl (fun _ => 0))), (o10, .inr (2, [.int 0, .int 0, .null, .int 0]))] H := hP
  have hD : va_D A [(h0, .inr (1, [.ref q1, .ref q2, .ref q3, .ref o4, .ref o6, .ref o8, .null, .null, .int 0, .int 0, .int 0, .int 0, .int 0, .int 0, .int 0, .int 0])), (q1, .inl (cI, 7, .inl (upd (upd (upd (upd (upd (upd (upd (fun _ => 0) 0 5) 1 8) 2 4) 3 10) 4 5) 5 10) 6 50))), (q2, .inl (cI, 5, .inl (upd (upd (upd (upd (upd (fun _ => 0) 0 100) 1 200) 2 260) 3 400) 4 500))), (q3, .inl (cI, 18, .inl (fun _ => 0))), (o4, .inr (2, [.int 4, .int 20, .ref c5, .int 0])), (c5, .inl (cI, 80, .inl (fun _ => 0))), (o6, .inr (2, [.int 6, .int 35, .ref c7, .int 0])), (c7, .inl (cI, 210, .inl (fun _ => 0))), (o8, .inr (2, [.int 4, .int 200, .ref c9, .int 0])), (c9, .inl (cI, 800, .inl (fun _ => 0))), (o10, .inr (2, [.int 0, .int 0, .null, .int 0]))] := hD
  refine lv_dup hx hb dX1_init_137 rfl ?_
  refine lv_iconst (v := 1) hx hb dX1_init_138 (by decide) ?_
  refine lv_bipush (v := 50) hx hb dX1_init_139 (by decide) ?_
  refine kcC (mc := 1) (ms := 50) (As := [.int 1, .int 50]) (rest := [.ref o10, .ref h0]) E.1 (cx2_init E o10 1 50 50 (by decide) (by decide) (by decide) (by decide) (Nat.le_of_ble_eq_true rfl)) hX (cwI 2 hts gX1_init_X2_init rfl rfl rfl q10 q24 q25 rfl (by decide +kernel) ⟨Nat.le_of_ble_eq_true rfl, Nat.le_of_ble_eq_true rfl⟩) hKs hP hD hS hA [(h0, .inr (1, [.ref q1, .ref q2, .ref q3, .ref o4, .ref o6, .ref o8, .null, .null, .int 0, .int 0, .int 0, .int 0, .int 0, .int 0, .int 0, .int 0])), (q1, .inl (cI, 7, .inl (upd (upd (upd (upd (upd (upd (upd (fun _ => 0) 0 5) 1 8) 2 4) 3 10) 4 5) 5 10) 6 50))), (q2, .inl (cI, 5, .inl (upd (upd (upd (upd (upd (fun _ => 0) 0 100) 1 200) 2 260) 3 400) 4 500))), (q3, .inl (cI, 18, .inl (fun _ => 0))), (o4, .inr (2, [.int 4, .int 20, .ref c5, .int 0])), (c5, .inl (cI, 80, .inl (fun _ => 0))), (o6, .inr (2, [.int 6, .int 35, .ref c7, .int 0])), (c7, .inl (cI, 210, .inl (fun _ => 0))), (o8, .inr (2, [.int 4, .int 200, .ref c9, .int 0])), (c9, .inl (cI, 800, .inl (fun _ => 0)))] [] (wi := [(o10, .inr (2, [.int 0, .int 0, .null, .int 0]))]) (by first | rfl | (simp only [List.append_assoc]; rfl)) rfl rfl hl.1 (Nat.le_of_ble_eq_true rfl) dX1_init_141 ⟨hmc11, hms11⟩ (fun w2 g2 H locs hP hD hS => ?_)
  obtain ⟨c11, rfl⟩ := g2
  have hP : va_P D vwCl [(h0, .inr (1, [.ref q1, .ref q2, .ref q3, .ref o4, .ref o6, .ref o8, .null, .null, .int 0, .int 0, .int 0, .int 0, .int 0, .int 0, .int 0, .int 0])), (q1, .inl (cI, 7, .inl (upd (upd (upd (upd (upd (upd (upd (fun _ => 0) 0 5) 1 8) 2 4) 3 10) 4 5) 5 10) 6 50))), (q2, .inl (cI, 5, .inl (upd (upd (upd (upd (upd (fun _ => 0) 0 100) 1 200) 2 260) 3 400) 4 500))), (q3, .inl (cI, 18, .inl (fun _ => 0))), (o4, .inr (2, [.int 4, .int 20, .ref c5, .int 0])), (c5, .inl (cI, 80, .inl (fun _ => 0))), (o6, .inr (2, [.int 6, .int 35, .ref c7, .int 0])), (c7, .inl (cI, 210, .inl (fun _ => 0))), (o8, .inr (2, [.int 4, .int 200, .ref c9, .int 0])), (c9, .inl (cI, 800, .inl (fun _ => 0))), (o10, .inr (2, [.int 1, .int 50, .ref c11, .int 0])), (c11, .inl (cI, 50, .inl (fun _ => 0)))] H := hP
  have hD : va_D A [(h0, .inr (1, [.ref q1, .ref q2, .ref q3, .ref o4, .ref o6, .ref o8, .null, .null, .int 0, .int 0, .int 0, .int 0, .int 0, .int 0, .int 0, .int 0])), (q1, .inl (cI, 7, .inl (upd (upd (upd (upd (upd (upd (upd (fun _ => 0) 0 5) 1 8) 2 4) 3 10) 4 5) 5 10) 6 50))), (q2, .inl (cI, 5, .inl (upd (upd (upd (upd (upd (fun _ => 0) 0 100) 1 200) 2 260) 3 400) 4 500))), (q3, .inl (cI, 18, .inl (fun _ => 0))), (o4, .inr (2, [.int 4, .int 20, .ref c5, .int 0])), (c5, .inl (cI, 80, .inl (fun _ => 0))), (o6, .inr (2, [.int 6, .int 35, .ref c7, .int 0])), (c7, .inl (cI, 210, .inl (fun _ => 0))), (o8, .inr (2, [.int 4, .int 200, .ref c9, .int 0])), (c9, .inl (cI, 800, .inl (fun _ => 0))), (o10, .inr (2, [.int 1, .int 50, .ref c11, .int 0])), (c11, .inl (cI, 50, .inl (fun _ => 0)))] := hD
  refine va_putF (D := D) (ci := 1) (v := .ref o10) (ty := (.object "LabelStation$Table")) (C := RX1) (T := TX1) (N := 16) hx hb hts hinX1 tyX1 tyX1_ok nmX1 hown hK hP hD hS 0 rfl rfl 6 (by decide) q14 (fun _ h9 => h9) rfl hini rfl (by decide +kernel) rfl rfl (Nat.le_of_ble_eq_true rfl) dX1_init_144 (fun H locs hP hD hS => ?_)
  have hP : va_P D vwCl [(h0, .inr (1, [.ref q1, .ref q2, .ref q3, .ref o4, .ref o6, .ref o8, .ref o10, .null, .int 0, .int 0, .int 0, .int 0, .int 0, .int 0, .int 0, .int 0])), (q1, .inl (cI, 7, .inl (upd (upd (upd (upd (upd (upd (upd (fun _ => 0) 0 5) 1 8) 2 4) 3 10) 4 5) 5 10) 6 50))), (q2, .inl (cI, 5, .inl (upd (upd (upd (upd (upd (fun _ => 0) 0 100) 1 200) 2 260) 3 400) 4 500))), (q3, .inl (cI, 18, .inl (fun _ => 0))), (o4, .inr (2, [.int 4, .int 20, .ref c5, .int 0])), (c5, .inl (cI, 80, .inl (fun _ => 0))), (o6, .inr (2, [.int 6, .int 35, .ref c7, .int 0])), (c7, .inl (cI, 210, .inl (fun _ => 0))), (o8, .inr (2, [.int 4, .int 200, .ref c9, .int 0])), (c9, .inl (cI, 800, .inl (fun _ => 0))), (o10, .inr (2, [.int 1, .int 50, .ref c11, .int 0])), (c11, .inl (cI, 50, .inl (fun _ => 0)))] H := hP
  have hD : va_D A [(h0, .inr (1, [.ref q1, .ref q2, .ref q3, .ref o4, .ref o6, .ref o8, .ref o10, .null, .int 0, .int 0, .int 0, .int 0, .int 0, .int 0, .int 0, .int 0])), (q1, .inl (cI, 7, .inl (upd (upd (upd (upd (upd (upd (upd (fun _ => 0) 0 5) 1 8) 2 4) 3 10) 4 5) 5 10) 6 50))), (q2, .inl (cI, 5, .inl (upd (upd (upd (upd (upd (fun _ => 0) 0 100) 1 200) 2 260) 3 400) 4 500))), (q3, .inl (cI, 18, .inl (fun _ => 0))), (o4, .inr (2, [.int 4, .int 20, .ref c5, .int 0])), (c5, .inl (cI, 80, .inl (fun _ => 0))), (o6, .inr (2, [.int 6, .int 35, .ref c7, .int 0])), (c7, .inl (cI, 210, .inl (fun _ => 0))), (o8, .inr (2, [.int 4, .int 200, .ref c9, .int 0])), (c9, .inl (cI, 800, .inl (fun _ => 0))), (o10, .inr (2, [.int 1, .int 50, .ref c11, .int 0])), (c11, .inl (cI, 50, .inl (fun _ => 0)))] := hD
  refine lv_aload_n hx hb dX1_init_147 rfl (lv_at hl 0 rfl) ?_
  refine va_new (D := D) (cl := vwCl) (ci := 2) (fs := [.int 0, .int 0, .null, .int 0]) (C := RX2) (T := TX2) (N := 4) hx hb hts hinX2 tyX2 tyX2_ok hown q8 q9 q10 hK hP hD hS hA rfl (by intro j hj; rcases (show j = 0 ∨ j = 1 ∨ j = 2 ∨ j = 3 by omega) with rfl | rfl | rfl | rfl <;> rfl) hmc12 hms12 dX1_init_148 (fun o12 H hP hD hS => ?_)
  have hP : va_P D vwCl [(h0, .inr (1, [.ref q1, .ref q2, .ref q3, .ref o4, .ref o6, .ref o8, .ref o10, .null, .int 0, .int 0, .int 0, .int 0, .int 0, .int 0, .int 0, .int 0])), (q1, .inl (cI, 7, .inl (upd (upd (upd (upd (upd (upd (upd (fun _ => 0) 0 5) 1 8) 2 4) 3 10) 4 5) 5 10) 6 50))), (q2, .inl (cI, 5, .inl (upd (upd (upd (upd (upd (fun _ => 0) 0 100) 1 200) 2 260) 3 400) 4 500))), (q3, .inl (cI, 18, .inl (fun _ => 0))), (o4, .inr (2, [.int 4, .int 20, .ref c5, .int 0])), (c5, .inl (cI, 80, .inl (fun _ => 0))), (o6, .inr (2, [.int 6, .int 35, .ref c7, .int 0])), (c7, .inl (cI, 210, .inl (fun _ => 0))), (o8, .inr (2, [.int 4, .int 200, .ref c9, .int 0])), (c9, .inl (cI, 800, .inl (fun _ => 0))), (o10, .inr (2, [.int 1, .int 50, .ref c11, .int 0])), (c11, .inl (cI, 50, .inl (fun _ => 0))), (o12, .inr (2, [.int 0, .int 0, .null, .int 0]))] H := hP
  have hD : va_D A [(h0, .inr (1, [.ref q1, .ref q2, .ref q3, .ref o4, .ref o6, .ref o8, .ref o10, .null, .int 0, .int 0, .int 0, .int 0, .int 0, .int 0, .int 0, .int 0])), (q1, .inl (cI, 7, .inl (upd (upd (upd (upd (upd (upd (upd (fun _ => 0) 0 5) 1 8) 2 4) 3 10) 4 5) 5 10) 6 50))), (q2, .inl (cI, 5, .inl (upd (upd (upd (upd (upd (fun _ => 0) 0 100) 1 200) 2 260) 3 400) 4 500))), (q3, .inl (cI, 18, .inl (fun _ => 0))), (o4, .inr (2, [.int 4, .int 20, .ref c5, .int 0])), (c5, .inl (cI, 80, .inl (fun _ => 0))), (o6, .inr (2, [.int 6, .int 35, .ref c7, .int 0])), (c7, .inl (cI, 210, .inl (fun _ => 0))), (o8, .inr (2, [.int 4, .int 200, .ref c9, .int 0])), (c9, .inl (cI, 800, .inl (fun _ => 0))), (o10, .inr (2, [.int 1, .int 50, .ref c11, .int 0])), (c11, .inl (cI, 50, .inl (fun _ => 0))), (o12, .inr (2, [.int 0, .int 0, .null, .int 0]))] := hD
  refine lv_dup hx hb dX1_init_151 rfl ?_
  refine lv_iconst (v := 1) hx hb dX1_init_152 (by decide) ?_
  refine lv_bipush (v := 101) hx hb dX1_init_153 (by decide) ?_
  refine kcC (mc := 1) (ms := 101) (As := [.int 1, .int 101]) (rest := [.ref o12, .ref h0]) E.1 (cx2_init E o12 1 101 101 (by decide) (by decide) (by decide) (by decide) (Nat.le_of_ble_eq_true rfl)) hX (cwI 2 hts gX1_init_X2_init rfl rfl rfl q10 q24 q25 rfl (by decide +kernel) ⟨Nat.le_of_ble_eq_true rfl, Nat.le_of_ble_eq_true rfl⟩) hKs hP hD hS hA [(h0, .inr (1, [.ref q1, .ref q2, .ref q3, .ref o4, .ref o6, .ref o8, .ref o10, .null, .int 0, .int 0, .int 0, .int 0, .int 0, .int 0, .int 0, .int 0])), (q1, .inl (cI, 7, .inl (upd (upd (upd (upd (upd (upd (upd (fun _ => 0) 0 5) 1 8) 2 4) 3 10) 4 5) 5 10) 6 50))), (q2, .inl (cI, 5, .inl (upd (upd (upd (upd (upd (fun _ => 0) 0 100) 1 200) 2 260) 3 400) 4 500))), (q3, .inl (cI, 18, .inl (fun _ => 0))), (o4, .inr (2, [.int 4, .int 20, .ref c5, .int 0])), (c5, .inl (cI, 80, .inl (fun _ => 0))), (o6, .inr (2, [.int 6, .int 35, .ref c7, .int 0])), (c7, .inl (cI, 210, .inl (fun _ => 0))), (o8, .inr (2, [.int 4, .int 200, .ref c9, .int 0])), (c9, .inl (cI, 800, .inl (fun _ => 0))), (o10, .inr (2, [.int 1, .int 50, .ref c11, .int 0])), (c11, .inl (cI, 50, .inl (fun _ => 0)))] [] (wi := [(o12, .inr (2, [.int 0, .int 0, .null, .int 0]))]) (by first | rfl | (simp only [List.append_assoc]; rfl)) rfl rfl hl.1 (Nat.le_of_ble_eq_true rfl) dX1_init_155 ⟨hmc13, hms13⟩ (fun w2 g2 H locs hP hD hS => ?_)
  obtain ⟨c13, rfl⟩ := g2
  have hP : va_P D vwCl [(h0, .inr (1, [.ref q1, .ref q2, .ref q3, .ref o4, .ref o6, .ref o8, .ref o10, .null, .int 0, .int 0, .int 0, .int 0, .int 0, .int 0, .int 0, .int 0])), (q1, .inl (cI, 7, .inl (upd (upd (upd (upd (upd (upd (upd (fun _ => 0) 0 5) 1 8) 2 4) 3 10) 4 5) 5 10) 6 50))), (q2, .inl (cI, 5, .inl (upd (upd (upd (upd (upd (fun _ => 0) 0 100) 1 200) 2 260) 3 400) 4 500))), (q3, .inl (cI, 18, .inl (fun _ => 0))), (o4, .inr (2, [.int 4, .int 20, .ref c5, .int 0])), (c5, .inl (cI, 80, .inl (fun _ => 0))), (o6, .inr (2, [.int 6, .int 35, .ref c7, .int 0])), (c7, .inl (cI, 210, .inl (fun _ => 0))), (o8, .inr (2, [.int 4, .int 200, .ref c9, .int 0])), (c9, .inl (cI, 800, .inl (fun _ => 0))), (o10, .inr (2, [.int 1, .int 50, .ref c11, .int 0])), (c11, .inl (cI, 50, .inl (fun _ => 0))), (o12, .inr (2, [.int 1, .int 101, .ref c13, .int 0])), (c13, .inl (cI, 101, .inl (fun _ => 0)))] H := hP
  have hD : va_D A [(h0, .inr (1, [.ref q1, .ref q2, .ref q3, .ref o4, .ref o6, .ref o8, .ref o10, .null, .int 0, .int 0, .int 0, .int 0, .int 0, .int 0, .int 0, .int 0])), (q1, .inl (cI, 7, .inl (upd (upd (upd (upd (upd (upd (upd (fun _ => 0) 0 5) 1 8) 2 4) 3 10) 4 5) 5 10) 6 50))), (q2, .inl (cI, 5, .inl (upd (upd (upd (upd (upd (fun _ => 0) 0 100) 1 200) 2 260) 3 400) 4 500))), (q3, .inl (cI, 18, .inl (fun _ => 0))), (o4, .inr (2, [.int 4, .int 20, .ref c5, .int 0])), (c5, .inl (cI, 80, .inl (fun _ => 0))), (o6, .inr (2, [.int 6, .int 35, .ref c7, .int 0])), (c7, .inl (cI, 210, .inl (fun _ => 0))), (o8, .inr (2, [.int 4, .int 200, .ref c9, .int 0])), (c9, .inl (cI, 800, .inl (fun _ => 0))), (o10, .inr (2, [.int 1, .int 50, .ref c11, .int 0])), (c11, .inl (cI, 50, .inl (fun _ => 0))), (o12, .inr (2, [.int 1, .int 101, .ref c13, .int 0])), (c13, .inl (cI, 101, .inl (fun _ => 0)))] := hD
  refine va_putF (D := D) (ci := 1) (v := .ref o12) (ty := (.object "LabelStation$Table")) (C := RX1) (T := TX1) (N := 16) hx hb hts hinX1 tyX1 tyX1_ok nmX1 hown hK hP hD hS 0 rfl rfl 7 (by decide) q15 (fun _ h9 => h9) rfl hini rfl (by decide +kernel) rfl rfl (Nat.le_of_ble_eq_true rfl) dX1_init_158 (fun H locs hP hD hS => ?_)
  have hP : va_P D vwCl [(h0, .inr (1, [.ref q1, .ref q2, .ref q3, .ref o4, .ref o6, .ref o8, .ref o10, .ref o12, .int 0, .int 0, .int 0, .int 0, .int 0, .int 0, .int 0, .int 0])), (q1, .inl (cI, 7, .inl (upd (upd (upd (upd (upd (upd (upd (fun _ => 0) 0 5) 1 8) 2 4) 3 10) 4 5) 5 10) 6 50))), (q2, .inl (cI, 5, .inl (upd (upd (upd (upd (upd (fun _ => 0) 0 100) 1 200) 2 260) 3 400) 4 500))), (q3, .inl (cI, 18, .inl (fun _ => 0))), (o4, .inr (2, [.int 4, .int 20, .ref c5, .int 0])), (c5, .inl (cI, 80, .inl (fun _ => 0))), (o6, .inr (2, [.int 6, .int 35, .ref c7, .int 0])), (c7, .inl (cI, 210, .inl (fun _ => 0))), (o8, .inr (2, [.int 4, .int 200, .ref c9, .int 0])), (c9, .inl (cI, 800, .inl (fun _ => 0))), (o10, .inr (2, [.int 1, .int 50, .ref c11, .int 0])), (c11, .inl (cI, 50, .inl (fun _ => 0))), (o12, .inr (2, [.int 1, .int 101, .ref c13, .int 0])), (c13, .inl (cI, 101, .inl (fun _ => 0)))] H := hP
  have hD : va_D A [(h0, .inr (1, [.ref q1, .ref q2, .ref q3, .ref o4, .ref o6, .ref o8, .ref o10, .ref o12, .int 0, .int 0, .int 0, .int 0, .int 0, .int 0, .int 0, .int 0])), (q1, .inl (cI, 7, .inl (upd (upd (upd (upd (upd (upd (upd (fun _ => 0) 0 5) 1 8) 2 4) 3 10) 4 5) 5 10) 6 50))), (q2, .inl (cI, 5, .inl (upd (upd (upd (upd (upd (fun _ => 0) 0 100) 1 200) 2 260) 3 400) 4 500))), (q3, .inl (cI, 18, .inl (fun _ => 0))), (o4, .inr (2, [.int 4, .int 20, .ref c5, .int 0])), (c5, .inl (cI, 80, .inl (fun _ => 0))), (o6, .inr (2, [.int 6, .int 35, .ref c7, .int 0])), (c7, .inl (cI, 210, .inl (fun _ => 0))), (o8, .inr (2, [.int 4, .int 200, .ref c9, .int 0])), (c9, .inl (cI, 800, .inl (fun _ => 0))), (o10, .inr (2, [.int 1, .int 50, .ref c11, .int 0])), (c11, .inl (cI, 50, .inl (fun _ => 0))), (o12, .inr (2, [.int 1, .int 101, .ref c13, .int 0])), (c13, .inl (cI, 101, .inl (fun _ => 0)))] := hD
  refine lv_aload_n hx hb dX1_init_161 rfl (lv_at hl 0 rfl) ?_
  refine lv_iconst (v := 0) hx hb dX1_init_162 (by decide) ?_
  refine va_put (D := D) (ci := 1) (v := .int 0) (ty := .int) (C := RX1) (T := TX1) (N := 16) hx hb hts hinX1 tyX1 tyX1_ok nmX1 hown hK hP hD hS 0 rfl rfl 8 (by decide) q16 (fun _ h9 => h9) rfl (by decide +kernel) rfl rfl (Nat.le_of_ble_eq_true rfl) dX1_init_163 (fun H locs hP hD hS => ?_)
  have hP : va_P D vwCl [(h0, .inr (1, [.ref q1, .ref q2, .ref q3, .ref o4, .ref o6, .ref o8, .ref o10, .ref o12, .int 0, .int 0, .int 0, .int 0, .int 0, .int 0, .int 0, .int 0])), (q1, .inl (cI, 7, .inl (upd (upd (upd (upd (upd (upd (upd (fun _ => 0) 0 5) 1 8) 2 4) 3 10) 4 5) 5 10) 6 50))), (q2, .inl (cI, 5, .inl (upd (upd (upd (upd (upd (fun _ => 0) 0 100) 1 200) 2 260) 3 400) 4 500))), (q3, .inl (cI, 18, .inl (fun _ => 0))), (o4, .inr (2, [.int 4, .int 20, .ref c5, .int 0])), (c5, .inl (cI, 80, .inl (fun _ => 0))), (o6, .inr (2, [.int 6, .int 35, .ref c7, .int 0])), (c7, .inl (cI, 210, .inl (fun _ => 0))), (o8, .inr (2, [.int 4, .int 200, .ref c9, .int 0])), (c9, .inl (cI, 800, .inl (fun _ => 0))), (o10, .inr (2, [.int 1, .int 50, .ref c11, .int 0])), (c11, .inl (cI, 50, .inl (fun _ => 0))), (o12, .inr (2, [.int 1, .int 101, .ref c13, .int 0])), (c13, .inl (cI, 101, .inl (fun _ => 0)))] H := hP
  have hD : va_D A [(h0, .inr (1, [.ref q1, .ref q2, .ref q3, .ref o4, .ref o6, .ref o8, .ref o10, .ref o12, .int 0, .int 0, .int 0, .int 0, .int 0, .int 0, .int 0, .int 0])), (q1, .inl (cI, 7, .inl (upd (upd (upd (upd (upd (upd (upd (fun _ => 0) 0 5) 1 8) 2 4) 3 10) 4 5) 5 10) 6 50))), (q2, .inl (cI, 5, .inl (upd (upd (upd (upd (upd (fun _ => 0) 0 100) 1 200) 2 260) 3 400) 4 500))), (q3, .inl (cI, 18, .inl (fun _ => 0))), (o4, .inr (2, [.int 4, .int 20, .ref c5, .int 0])), (c5, .inl (cI, 80, .inl (fun _ => 0))), (o6, .inr (2, [.int 6, .int 35, .ref c7, .int 0])), (c7, .inl (cI, 210, .inl (fun _ => 0))), (o8, .inr (2, [.int 4, .int 200, .ref c9, .int 0])), (c9, .inl (cI, 800, .inl (fun _ => 0))), (o10, .inr (2, [.int 1, .int 50, .ref c11, .int 0])), (c11, .inl (cI, 50, .inl (fun _ => 0))), (o12, .inr (2, [.int 1, .int 101, .ref c13, .int 0])), (c13, .inl (cI, 101, .inl (fun _ => 0)))] := hD
  refine lv_aload_n hx hb dX1_init_166 rfl (lv_at hl 0 rfl) ?_
  refine lv_iconst (v := 0) hx hb dX1_init_167 (by decide) ?_
  refine va_put (D := D) (ci := 1) (v := .int 0) (ty := .boolean) (C := RX1) (T := TX1) (N := 16) hx hb hts hinX1 tyX1 tyX1_ok nmX1 hown hK hP hD hS 0 rfl rfl 9 (by decide) q17 (fun _ h9 => h9) rfl (by decide +kernel) rfl rfl (Nat.le_of_ble_eq_true rfl) dX1_init_168 (fun H locs hP hD hS => ?_)
  have hP : va_P D vwCl [(h0, .inr (1, [.ref q1, .ref q2, .ref q3, .ref o4, .ref o6, .ref o8, .ref o10, .ref o12, .int 0, .int 0, .int 0, .int 0, .int 0, .int 0, .int 0, .int 0])), (q1, .inl (cI, 7, .inl (upd (upd (upd (upd (upd (upd (upd (fun _ => 0) 0 5) 1 8) 2 4) 3 10) 4 5) 5 10) 6 50))), (q2, .inl (cI, 5, .inl (upd (upd (upd (upd (upd (fun _ => 0) 0 100) 1 200) 2 260) 3 400) 4 500))), (q3, .inl (cI, 18, .inl (fun _ => 0))), (o4, .inr (2, [.int 4, .int 20, .ref c5, .int 0])), (c5, .inl (cI, 80, .inl (fun _ => 0))), (o6, .inr (2, [.int 6, .int 35, .ref c7, .int 0])), (c7, .inl (cI, 210, .inl (fun _ => 0))), (o8, .inr (2, [.int 4, .int 200, .ref c9, .int 0])), (c9, .inl (cI, 800, .inl (fun _ => 0))), (o10, .inr (2, [.int 1, .int 50, .ref c11, .int 0])), (c11, .inl (cI, 50, .inl (fun _ => 0))), (o12, .inr (2, [.int 1, .int 101, .ref c13, .int 0])), (c13, .inl (cI, 101, .inl (fun _ => 0)))] H := hP
  have hD : va_D A [(h0, .inr (1, [.ref q1, .ref q2, .ref q3, .ref o4, .ref o6, .ref o8, .ref o10, .ref o12, .int 0, .int 0, .int 0, .int 0, .int 0, .int 0, .int 0, .int 0])), (q1, .inl (cI, 7, .inl (upd (upd (upd (upd (upd (upd (upd (fun _ => 0) 0 5) 1 8) 2 4) 3 10) 4 5) 5 10) 6 50))), (q2, .inl (cI, 5, .inl (upd (upd (upd (upd (upd (fun _ => 0) 0 100) 1 200) 2 260) 3 400) 4 500))), (q3, .inl (cI, 18, .inl (fun _ => 0))), (o4, .inr (2, [.int 4, .int 20, .ref c5, .int 0])), (c5, .inl (cI, 80, .inl (fun _ => 0))), (o6, .inr (2, [.int 6, .int 35, .ref c7, .int 0])), (c7, .inl (cI, 210, .inl (fun _ => 0))), (o8, .inr (2, [.int 4, .int 200, .ref c9, .int 0])), (c9, .inl (cI, 800, .inl (fun _ => 0))), (o10, .inr (2, [.int 1, .int 50, .ref c11, .int 0])), (c11, .inl (cI, 50, .inl (fun _ => 0))), (o12, .inr (2, [.int 1, .int 101, .ref c13, .int 0])), (c13, .inl (cI, 101, .inl (fun _ => 0)))] := hD
  refine lv_aload_n hx hb dX1_init_171 rfl (lv_at hl 0 rfl) ?_
  refine lv_iconst (v := 0) hx hb dX1_init_172 (by decide) ?_
  refine va_put (D := D) (ci := 1) (v := .int 0) (ty := .int) (C := RX1) (T := TX1) (N := 16) hx hb hts hinX1 tyX1 tyX1_ok nmX1 hown hK hP hD hS 0 rfl rfl 10 (by decide) q18 (fun _ h9 => h9) rfl (by decide +kernel) rfl rfl (Nat.le_of_ble_eq_true rfl) dX1_init_173 (fun H locs hP hD hS => ?_)
  have hP : va_P D vwCl [(h0, .inr (1, [.ref q1, .ref q2, .ref q3, .ref o4, .ref o6, .ref o8, .ref o10, .ref o12, .int 0, .int 0, .int 0, .int 0, .int 0, .int 0, .int 0, .int 0])), (q1, .inl (cI, 7, .inl (upd (upd (upd (upd (upd (upd (upd (fun _ => 0) 0 5) 1 8) 2 4) 3 10) 4 5) 5 10) 6 50))), (q2, .inl (cI, 5, .inl (upd (upd (upd (upd (upd (fun _ => 0) 0 100) 1 200) 2 260) 3 400) 4 500))), (q3, .inl (cI, 18, .inl (fun _ => 0))), (o4, .inr (2, [.int 4, .int 20, .ref c5, .int 0])), (c5, .inl (cI, 80, .inl (fun _ => 0))), (o6, .inr (2, [.int 6, .int 35, .ref c7, .int 0])), (c7, .inl (cI, 210, .inl (fun _ => 0))), (o8, .inr (2, [.int 4, .int 200, .ref c9, .int 0])), (c9, .inl (cI, 800, .inl (fun _ => 0))), (o10, .inr (2, [.int 1, .int 50, .ref c11, .int 0])), (c11, .inl (cI, 50, .inl (fun _ => 0))), (o12, .inr (2, [.int 1, .int 101, .ref c13, .int 0])), (c13, .inl (cI, 101, .inl (fun _ => 0)))] H := hP
  have hD : va_D A [(h0, .inr (1, [.ref q1, .ref q2, .ref q3, .ref o4, .ref o6, .ref o8, .ref o10, .ref o12, .int 0, .int 0, .int 0, .int 0, .int 0, .int 0, .int 0, .int 0])), (q1, .inl (cI, 7, .inl (upd (upd (upd (upd (upd (upd (upd (fun _ => 0) 0 5) 1 8) 2 4) 3 10) 4 5) 5 10) 6 50))), (q2, .inl (cI, 5, .inl (upd (upd (upd (upd (upd (fun _ => 0) 0 100) 1 200) 2 260) 3 400) 4 500))), (q3, .inl (cI, 18, .inl (fun _ => 0))), (o4, .inr (2, [.int 4, .int 20, .ref c5, .int 0])), (c5, .inl (cI, 80, .inl (fun _ => 0))), (o6, .inr (2, [.int 6, .int 35, .ref c7, .int 0])), (c7, .inl (cI, 210, .inl (fun _ => 0))), (o8, .inr (2, [.int 4, .int 200, .ref c9, .int 0])), (c9, .inl (cI, 800, .inl (fun _ => 0))), (o10, .inr (2, [.int 1, .int 50, .ref c11, .int 0])), (c11, .inl (cI, 50, .inl (fun _ => 0))), (o12, .inr (2, [.int 1, .int 101, .ref c13, .int 0])), (c13, .inl (cI, 101, .inl (fun _ => 0)))] := hD
  refine lv_aload_n hx hb dX1_init_176 rfl (lv_at hl 0 rfl) ?_
  refine lv_iconst (v := 0) hx hb dX1_init_177 (by decide) ?_
  refine va_put (D := D) (ci := 1) (v := .int 0) (ty := .boolean) (C := RX1) (T := TX1) (N := 16) hx hb hts hinX1 tyX1 tyX1_ok nmX1 hown hK hP hD hS 0 rfl rfl 11 (by decide) q19 (fun _ h9 => h9) rfl (by decide +kernel) rfl rfl (Nat.le_of_ble_eq_true rfl) dX1_init_178 (fun H locs hP hD hS => ?_)
  have hP : va_P D vwCl [(h0, .inr (1, [.ref q1, .ref q2, .ref q3, .ref o4, .ref o6, .ref o8, .ref o10, .ref o12, .int 0, .int 0, .int 0, .int 0, .int 0, .int 0, .int 0, .int 0])), (q1, .inl (cI, 7, .inl (upd (upd (upd (upd (upd (upd (upd (fun _ => 0) 0 5) 1 8) 2 4) 3 10) 4 5) 5 10) 6 50))), (q2, .inl (cI, 5, .inl (upd (upd (upd (upd (upd (fun _ => 0) 0 100) 1 200) 2 260) 3 400) 4 500))), (q3, .inl (cI, 18, .inl (fun _ => 0))), (o4, .inr (2, [.int 4, .int 20, .ref c5, .int 0])), (c5, .inl (cI, 80, .inl (fun _ => 0))), (o6, .inr (2, [.int 6, .int 35, .ref c7, .int 0])), (c7, .inl (cI, 210, .inl (fun _ => 0))), (o8, .inr (2, [.int 4, .int 200, .ref c9, .int 0])), (c9, .inl (cI, 800, .inl (fun _ => 0))), (o10, .inr (2, [.int 1, .int 50, .ref c11, .int 0])), (c11, .inl (cI, 50, .inl (fun _ => 0))), (o12, .inr (2, [.int 1, .int 101, .ref c13, .int 0])), (c13, .inl (cI, 101, .inl (fun _ => 0)))] H := hP
  have hD : va_D A [(h0, .inr (1, [.ref q1, .ref q2, .ref q3, .ref o4, .ref o6, .ref o8, .ref o10, .ref o12, .int 0, .int 0, .int 0, .int 0, .int 0, .int 0, .int 0, .int 0])), (q1, .inl (cI, 7, .inl (upd (upd (upd (upd (upd (upd (upd (fun _ => 0) 0 5) 1 8) 2 4) 3 10) 4 5) 5 10) 6 50))), (q2, .inl (cI, 5, .inl (upd (upd (upd (upd (upd (fun _ => 0) 0 100) 1 200) 2 260) 3 400) 4 500))), (q3, .inl (cI, 18, .inl (fun _ => 0))), (o4, .inr (2, [.int 4, .int 20, .ref c5, .int 0])), (c5, .inl (cI, 80, .inl (fun _ => 0))), (o6, .inr (2, [.int 6, .int 35, .ref c7, .int 0])), (c7, .inl (cI, 210, .inl (fun _ => 0))), (o8, .inr (2, [.int 4, .int 200, .ref c9, .int 0])), (c9, .inl (cI, 800, .inl (fun _ => 0))), (o10, .inr (2, [.int 1, .int 50, .ref c11, .int 0])), (c11, .inl (cI, 50, .inl (fun _ => 0))), (o12, .inr (2, [.int 1, .int 101, .ref c13, .int 0])), (c13, .inl (cI, 101, .inl (fun _ => 0)))] := hD
  refine lv_aload_n hx hb dX1_init_181 rfl (lv_at hl 0 rfl) ?_
  refine lv_iconst (v := 0) hx hb dX1_init_182 (by decide) ?_
  refine va_put (D := D) (ci := 1) (v := .int 0) (ty := .int) (C := RX1) (T := TX1) (N := 16) hx hb hts hinX1 tyX1 tyX1_ok nmX1 hown hK hP hD hS 0 rfl rfl 12 (by decide) q20 (fun _ h9 => h9) rfl (by decide +kernel) rfl rfl (Nat.le_of_ble_eq_true rfl) dX1_init_183 (fun H locs hP hD hS => ?_)
  have hP : va_P D vwCl [(h0, .inr (1, [.ref q1, .ref q2, .ref q3, .ref o4, .ref o6, .ref o8, .ref o10, .ref o12, .int 0, .int 0, .int 0, .int 0, .int 0, .int 0, .int 0, .int 0])), (q1, .inl (cI, 7, .inl (upd (upd (upd (upd (upd (upd (upd (fun _ => 0) 0 5) 1 8) 2 4) 3 10) 4 5) 5 10) 6 50))), (q2, .inl (cI, 5, .inl (upd (upd (upd (upd (upd (fun _ => 0) 0 100) 1 200) 2 260) 3 400) 4 500))), (q3, .inl (cI, 18, .inl (fun _ => 0))), (o4, .inr (2, [.int 4, .int 20, .ref c5, .int 0])), (c5, .inl (cI, 80, .inl (fun _ => 0))), (o6, .inr (2, [.int 6, .int 35, .ref c7, .int 0])), (c7, .inl (cI, 210, .inl (fun _ => 0))), (o8, .inr (2, [.int 4, .int 200, .ref c9, .int 0])), (c9, .inl (cI, 800, .inl (fun _ => 0))), (o10, .inr (2, [.int 1, .int 50, .ref c11, .int 0])), (c11, .inl (cI, 50, .inl (fun _ => 0))), (o12, .inr (2, [.int 1, .int 101, .ref c13, .int 0])), (c13, .inl (cI, 101, .inl (fun _ => 0)))] H := hP
  have hD : va_D A [(h0, .inr (1, [.ref q1, .ref q2, .ref q3, .ref o4, .ref o6, .ref o8, .ref o10, .ref o12, .int 0, .int 0, .int 0, .int 0, .int 0, .int 0, .int 0, .int 0])), (q1, .inl (cI, 7, .inl (upd (upd (upd (upd (upd (upd (upd (fun _ => 0) 0 5) 1 8) 2 4) 3 10) 4 5) 5 10) 6 50))), (q2, .inl (cI, 5, .inl (upd (upd (upd (upd (upd (fun _ => 0) 0 100) 1 200) 2 260) 3 400) 4 500))), (q3, .inl (cI, 18, .inl (fun _ => 0))), (o4, .inr (2, [.int 4, .int 20, .ref c5, .int 0])), (c5, .inl (cI, 80, .inl (fun _ => 0))), (o6, .inr (2, [.int 6, .int 35, .ref c7, .int 0])), (c7, .inl (cI, 210, .inl (fun _ => 0))), (o8, .inr (2, [.int 4, .int 200, .ref c9, .int 0])), (c9, .inl (cI, 800, .inl (fun _ => 0))), (o10, .inr (2, [.int 1, .int 50, .ref c11, .int 0])), (c11, .inl (cI, 50, .inl (fun _ => 0))), (o12, .inr (2, [.int 1, .int 101, .ref c13, .int 0])), (c13, .inl (cI, 101, .inl (fun _ => 0)))] := hD
  refine lv_aload_n hx hb dX1_init_186 rfl (lv_at hl 0 rfl) ?_
  refine lv_iconst (v := 0) hx hb dX1_init_187 (by decide) ?_
  refine va_put (D := D) (ci := 1) (v := .int 0) (ty := .int) (C := RX1) (T := TX1) (N := 16) hx hb hts hinX1 tyX1 tyX1_ok nmX1 hown hK hP hD hS 0 rfl rfl 13 (by decide) q21 (fun _ h9 => h9) rfl (by decide +kernel) rfl rfl (Nat.le_of_ble_eq_true rfl) dX1_init_188 (fun H locs hP hD hS => ?_)
  have hP : va_P D vwCl [(h0, .inr (1, [.ref q1, .ref q2, .ref q3, .ref o4, .ref o6, .ref o8, .ref o10, .ref o12, .int 0, .int 0, .int 0, .int 0, .int 0, .int 0, .int 0, .int 0])), (q1, .inl (cI, 7, .inl (upd (upd (upd (upd (upd (upd (upd (fun _ => 0) 0 5) 1 8) 2 4) 3 10) 4 5) 5 10) 6 50))), (q2, .inl (cI, 5, .inl (upd (upd (upd (upd (upd (fun _ => 0) 0 100) 1 200) 2 260) 3 400) 4 500))), (q3, .inl (cI, 18, .inl (fun _ => 0))), (o4, .inr (2, [.int 4, .int 20, .ref c5, .int 0])), (c5, .inl (cI, 80, .inl (fun _ => 0))), (o6, .inr (2, [.int 6, .int 35, .ref c7, .int 0])), (c7, .inl (cI, 210, .inl (fun _ => 0))), (o8, .inr (2, [.int 4, .int 200, .ref c9, .int 0])), (c9, .inl (cI, 800, .inl (fun _ => 0))), (o10, .inr (2, [.int 1, .int 50, .ref c11, .int 0])), (c11, .inl (cI, 50, .inl (fun _ => 0))), (o12, .inr (2, [.int 1, .int 101, .ref c13, .int 0])), (c13, .inl (cI, 101, .inl (fun _ => 0)))] H := hP
  have hD : va_D A [(h0, .inr (1, [.ref q1, .ref q2, .ref q3, .ref o4, .ref o6, .ref o8, .ref o10, .ref o12, .int 0, .int 0, .int 0, .int 0, .int 0, .int 0, .int 0, .int 0])), (q1, .inl (cI, 7, .inl (upd (upd (upd (upd (upd (upd (upd (fun _ => 0) 0 5) 1 8) 2 4) 3 10) 4 5) 5 10) 6 50))), (q2, .inl (cI, 5, .inl (upd (upd (upd (upd (upd (fun _ => 0) 0 100) 1 200) 2 260) 3 400) 4 500))), (q3, .inl (cI, 18, .inl (fun _ => 0))), (o4, .inr (2, [.int 4, .int 20, .ref c5, .int 0])), (c5, .inl (cI, 80, .inl (fun _ => 0))), (o6, .inr (2, [.int 6, .int 35, .ref c7, .int 0])), (c7, .inl (cI, 210, .inl (fun _ => 0))), (o8, .inr (2, [.int 4, .int 200, .ref c9, .int 0])), (c9, .inl (cI, 800, .inl (fun _ => 0))), (o10, .inr (2, [.int 1, .int 50, .ref c11, .int 0])), (c11, .inl (cI, 50, .inl (fun _ => 0))), (o12, .inr (2, [.int 1, .int 101, .ref c13, .int 0])), (c13, .inl (cI, 101, .inl (fun _ => 0)))] := hD
  refine lv_aload_n hx hb dX1_init_191 rfl (lv_at hl 0 rfl) ?_
  refine lv_iconst (v := (-1)) hx hb dX1_init_192 (by decide) ?_
  refine va_put (D := D) (ci := 1) (v := .int (-1)) (ty := .int) (C := RX1) (T := TX1) (N := 16) hx hb hts hinX1 tyX1 tyX1_ok nmX1 hown hK hP hD hS 0 rfl rfl 14 (by decide) q22 (fun _ h9 => h9) rfl (by decide +kernel) rfl rfl (Nat.le_of_ble_eq_true rfl) dX1_init_193 (fun H locs hP hD hS => ?_)
  have hP : va_P D vwCl [(h0, .inr (1, [.ref q1, .ref q2, .ref q3, .ref o4, .ref o6, .ref o8, .ref o10, .ref o12, .int 0, .int 0, .int 0, .int 0, .int 0, .int 0, .int (-1), .int 0])), (q1, .inl (cI, 7, .inl (upd (upd (upd (upd (upd (upd (upd (fun _ => 0) 0 5) 1 8) 2 4) 3 10) 4 5) 5 10) 6 50))), (q2, .inl (cI, 5, .inl (upd (upd (upd (upd (upd (fun _ => 0) 0 100) 1 200) 2 260) 3 400) 4 500))), (q3, .inl (cI, 18, .inl (fun _ => 0))), (o4, .inr (2, [.int 4, .int 20, .ref c5, .int 0])), (c5, .inl (cI, 80, .inl (fun _ => 0))), (o6, .inr (2, [.int 6, .int 35, .ref c7, .int 0])), (c7, .inl (cI, 210, .inl (fun _ => 0))), (o8, .inr (2, [.int 4, .int 200, .ref c9, .int 0])), (c9, .inl (cI, 800, .inl (fun _ => 0))), (o10, .inr (2, [.int 1, .int 50, .ref c11, .int 0])), (c11, .inl (cI, 50, .inl (fun _ => 0))), (o12, .inr (2, [.int 1, .int 101, .ref c13, .int 0])), (c13, .inl (cI, 101, .inl (fun _ => 0)))] H := hP
  have hD : va_D A [(h0, .inr (1, [.ref q1, .ref q2, .ref q3, .ref o4, .ref o6, .ref o8, .ref o10, .ref o12, .int 0, .int 0, .int 0, .int 0, .int 0, .int 0, .int (-1), .int 0])), (q1, .inl (cI, 7, .inl (upd (upd (upd (upd (upd (upd (upd (fun _ => 0) 0 5) 1 8) 2 4) 3 10) 4 5) 5 10) 6 50))), (q2, .inl (cI, 5, .inl (upd (upd (upd (upd (upd (fun _ => 0) 0 100) 1 200) 2 260) 3 400) 4 500))), (q3, .inl (cI, 18, .inl (fun _ => 0))), (o4, .inr (2, [.int 4, .int 20, .ref c5, .int 0])), (c5, .inl (cI, 80, .inl (fun _ => 0))), (o6, .inr (2, [.int 6, .int 35, .ref c7, .int 0])), (c7, .inl (cI, 210, .inl (fun _ => 0))), (o8, .inr (2, [.int 4, .int 200, .ref c9, .int 0])), (c9, .inl (cI, 800, .inl (fun _ => 0))), (o10, .inr (2, [.int 1, .int 50, .ref c11, .int 0])), (c11, .inl (cI, 50, .inl (fun _ => 0))), (o12, .inr (2, [.int 1, .int 101, .ref c13, .int 0])), (c13, .inl (cI, 101, .inl (fun _ => 0)))] := hD
  refine lv_aload_n hx hb dX1_init_196 rfl (lv_at hl 0 rfl) ?_
  refine lv_iconst (v := 0) hx hb dX1_init_197 (by decide) ?_
  refine va_put (D := D) (ci := 1) (v := .int 0) (ty := .int) (C := RX1) (T := TX1) (N := 16) hx hb hts hinX1 tyX1 tyX1_ok nmX1 hown hK hP hD hS 0 rfl rfl 15 (by decide) q23 (fun _ h9 => h9) rfl (by decide +kernel) rfl rfl (Nat.le_of_ble_eq_true rfl) dX1_init_198 (fun H locs hP hD hS => ?_)
  have hP : va_P D vwCl [(h0, .inr (1, [.ref q1, .ref q2, .ref q3, .ref o4, .ref o6, .ref o8, .ref o10, .ref o12, .int 0, .int 0, .int 0, .int 0, .int 0, .int 0, .int (-1), .int 0])), (q1, .inl (cI, 7, .inl (upd (upd (upd (upd (upd (upd (upd (fun _ => 0) 0 5) 1 8) 2 4) 3 10) 4 5) 5 10) 6 50))), (q2, .inl (cI, 5, .inl (upd (upd (upd (upd (upd (fun _ => 0) 0 100) 1 200) 2 260) 3 400) 4 500))), (q3, .inl (cI, 18, .inl (fun _ => 0))), (o4, .inr (2, [.int 4, .int 20, .ref c5, .int 0])), (c5, .inl (cI, 80, .inl (fun _ => 0))), (o6, .inr (2, [.int 6, .int 35, .ref c7, .int 0])), (c7, .inl (cI, 210, .inl (fun _ => 0))), (o8, .inr (2, [.int 4, .int 200, .ref c9, .int 0])), (c9, .inl (cI, 800, .inl (fun _ => 0))), (o10, .inr (2, [.int 1, .int 50, .ref c11, .int 0])), (c11, .inl (cI, 50, .inl (fun _ => 0))), (o12, .inr (2, [.int 1, .int 101, .ref c13, .int 0])), (c13, .inl (cI, 101, .inl (fun _ => 0)))] H := hP
  have hD : va_D A [(h0, .inr (1, [.ref q1, .ref q2, .ref q3, .ref o4, .ref o6, .ref o8, .ref o10, .ref o12, .int 0, .int 0, .int 0, .int 0, .int 0, .int 0, .int (-1), .int 0])), (q1, .inl (cI, 7, .inl (upd (upd (upd (upd (upd (upd (upd (fun _ => 0) 0 5) 1 8) 2 4) 3 10) 4 5) 5 10) 6 50))), (q2, .inl (cI, 5, .inl (upd (upd (upd (upd (upd (fun _ => 0) 0 100) 1 200) 2 260) 3 400) 4 500))), (q3, .inl (cI, 18, .inl (fun _ => 0))), (o4, .inr (2, [.int 4, .int 20, .ref c5, .int 0])), (c5, .inl (cI, 80, .inl (fun _ => 0))), (o6, .inr (2, [.int 6, .int 35, .ref c7, .int 0])), (c7, .inl (cI, 210, .inl (fun _ => 0))), (o8, .inr (2, [.int 4, .int 200, .ref c9, .int 0])), (c9, .inl (cI, 800, .inl (fun _ => 0))), (o10, .inr (2, [.int 1, .int 50, .ref c11, .int 0])), (c11, .inl (cI, 50, .inl (fun _ => 0))), (o12, .inr (2, [.int 1, .int 101, .ref c13, .int 0])), (c13, .inl (cI, 101, .inl (fun _ => 0)))] := hD
  exact krC hx hb hr hlk hP hD hS dX1_init_201 ⟨fun i => ([h0, q1, q2, q3, o4, c5, o6, c7, o8, c9, o10, c11, o12, c13] : List Nat).getD i 0, rfl, rfl⟩ hmc13 hms13

def hsI (cI cS : ClassId) (h q : Nat) (a0 a1 a2 a3 a4 : Nat → Nat) : va_W := [(h, .inr (0, [.ref q, .int 0, .int 0])), (q, .inl (cS, 5, .inr (.inr (.inr (.inr (va_up (va_up (va_up (va_up (va_up (fun _ => none) 0 (some (a0 0))) 1 (some (a1 0))) 2 (some (a2 0))) 3 (some (a3 0))) 4 (some (a4 0))))))))] ++ (stW cI a0 iS0 ++ (stW cI a1 iS0 ++ (stW cI a2 iS0 ++ (stW cI a3 iS0 ++ stW cI a4 iS0))))

set_option maxHeartbeats 4000000 in
set_option maxRecDepth 100000 in
theorem cx0_init {l : Launch} {D : va_G} {cI cB cS cJ : ClassId} {K : State → Prop} (E : kE D cI cB cS cJ K) (hAO0 : ∀ U, K U → va_AO RX1 U) (h0 : Nat) : kC l D K yX0_init wsX0_init 3 66 71 6540 [.ref h0] [(h0, .inr (0, [.null, .int 0, .int 0]))] (fun w2 => ∃ q a0 a1 a2 a3 a4, w2 = hsI cI cS h0 q a0 a1 a2 a3 a4) := by
  refine kC_of (own := RX0) (cc := cX0_init) (maxL := 2) (tys := kty cI cB cS cJ) (fun U h => (E.2 U h).1) (by decide) rfl rfl (Nat.le_of_ble_eq_true rfl) rfl ?_
  intro p e s m below meth c A ls hx hb hr hml hts hown hlk hKs hK hP hD hA hS hl hini
  have hl : lv_has ls 2 [(0, .ref h0)] := hl
  have hX : CallFix p m c cX0_init 2 s _ wsX0_init RX0 := ⟨hx, hb, hml, hown, hts⟩
  have hinX0 : ∀ w ∈ wsX00, w ∈ wsX0_init := fun w h => List.mem_cons_of_mem _ (List.mem_append_left _ (List.mem_append_left _ (List.mem_append_right _ h)))
  have hinX1 : ∀ w ∈ wsX10, w ∈ wsX0_init := fun w h => List.mem_cons_of_mem _ (List.mem_append_left _ (List.mem_append_right _ h))
  have q1 := hts (.methodLink RX0 3 objectInit) (List.mem_of_getElem? (i := 1) rfl)
  have q2 := hts (.instanceMethod objectInit) (List.mem_of_getElem? (i := 2) rfl)
  have q3 := hts (.code objectInit ⟨#[0xb1]⟩ 1 none) (List.mem_of_getElem? (i := 3) rfl)
  have q4 := hts (.classLink RX0 9 RX1) (List.mem_of_getElem? (i := 4) rfl)
  have q5 := hts (.fieldLink RX0 11 "LabelStation$History" "slots" "[LLabelStation$State;") (List.mem_of_getElem? (i := 5) rfl)
  have q6 := hts (.fieldLink RX0 17 "LabelStation$History" "oldest" "I") (List.mem_of_getElem? (i := 6) rfl)
  have q7 := hts (.fieldLink RX0 21 "LabelStation$History" "saved" "I") (List.mem_of_getElem? (i := 7) rfl)
  have q8 := hts (.instantiable RX1 16) (List.mem_of_getElem? (i := 8) rfl)
  have q9 := hts (.initialized RX1) (List.mem_of_getElem? (i := 9) rfl)
  have q10 := hts (.methodLink RX0 24 yX1_init) (List.mem_of_getElem? (i := 10) rfl)
  have q11 := hts (.instanceMethod yX1_init) (List.mem_of_getElem? (i := 11) rfl)
  have hAO := hAO0 s hKs
  have hmc1 : 1 ≤ 71 := by decide
  have hmc2 : 2 ≤ 71 := by decide
  have hmc15 : 15 ≤ 71 := by decide
  have hmc16 : 16 ≤ 71 := by decide
  have hmc29 : 29 ≤ 71 := by decide
  have hmc30 : 30 ≤ 71 := by decide
  have hmc43 : 43 ≤ 71 := by decide
  have hmc44 : 44 ≤ 71 := by decide
  have hmc57 : 57 ≤ 71 := by decide
  have hmc58 : 58 ≤ 71 := by decide
  have hmc71 : 71 ≤ 71 := by decide
  have hms1 : 0 + 5 ≤ 6540 := by omega
  have hms2 : 0 + 5 + 16 ≤ 6540 := by omega
  have hms15 : 0 + 5 + 16 + 1291 ≤ 6540 := by omega
  have hms16 : 0 + 5 + 16 + 1291 + 16 ≤ 6540 := by omega
  have hms29 : 0 + 5 + 16 + 1291 + 16 + 1291 ≤ 6540 := by omega
  have hms30 : 0 + 5 + 16 + 1291 + 16 + 1291 + 16 ≤ 6540 := by omega
  have hms43 : 0 + 5 + 16 + 1291 + 16 + 1291 + 16 + 1291 ≤ 6540 := by omega
  have hms44 : 0 + 5 + 16 + 1291 + 16 + 1291 + 16 + 1291 + 16 ≤ 6540 := by omega
  have hms57 : 0 + 5 + 16 + 1291 + 16 + 1291 + 16 + 1291 + 16 + 1291 ≤ 6540 := by omega
  have hms58 : 0 + 5 + 16 + 1291 + 16 + 1291 + 16 + 1291 + 16 + 1291 + 16 ≤ 6540 := by omega
  have hms71 : 0 + 5 + 16 + 1291 + 16 + 1291 + 16 + 1291 + 16 + 1291 + 16 + 1291 ≤ 6540 := by omega
  refine lv_aload_n hx hb dX0_init_0 rfl (lv_at hl 0 rfl) ?_
  refine W.objInit hx hb hown q1 q2 q3 rfl (by rw [hml]; exact hl.1) rfl dX0_init_1 (Nat.le_of_ble_eq_true rfl) (Nat.le_of_ble_eq_true rfl) ?_
  refine W.eq (g2 := F0 m 4 ls []) rfl ?_
  refine lv_aload_n hx hb dX0_init_4 rfl (lv_at hl 0 rfl) ?_
  refine lv_iconst (v := 5) hx hb dX0_init_5 (by decide) ?_
  refine kNewQ hx hb hown q4 hAO hK hP hD hS hA (N := 5) (by decide) (by decide) (Nat.le_of_ble_eq_true rfl) hmc1 hms1 dX0_init_6 (fun q1 H hP hD hS => ?_)
  have hP : va_P D vwCl [(h0, .inr (0, [.null, .int 0, .int 0])), (q1, .inl (cS, 5, .inr (.inr (.inr (.inr (fun _ => none))))))] H := hP
  have hD : va_D A [(h0, .inr (0, [.null, .int 0, .int 0])), (q1, .inl (cS, 5, .inr (.inr (.inr (.inr (fun _ => none))))))] := hD
  refine va_putF (D := D) (ci := 0) (v := .ref q1) (ty := (.array (.object "LabelStation$State"))) (C := RX0) (T := TX0) (N := 3) hx hb hts hinX0 tyX0 tyX0_ok nmX0 hown hK hP hD hS 0 rfl rfl 0 (by decide) q5 (fun _ h9 => h9) rfl hini rfl (by decide +kernel) rfl rfl (Nat.le_of_ble_eq_true rfl) dX0_init_9 (fun H locs hP hD hS => ?_)
  have hP : va_P D vwCl [(h0, .inr (0, [.ref q1, .int 0, .int 0])), (q1, .inl (cS, 5, .inr (.inr (.inr (.inr (fun _ => none))))))] H := hP
  have hD : va_D A [(h0, .inr (0, [.ref q1, .int 0, .int 0])), (q1, .inl (cS, 5, .inr (.inr (.inr (.inr (fun _ => none))))))] := hD
  refine lv_aload_n hx hb dX0_init_12 rfl (lv_at hl 0 rfl) ?_
  refine lv_iconst (v := 0) hx hb dX0_init_13 (by decide) ?_
  refine va_put (D := D) (ci := 0) (v := .int 0) (ty := .int) (C := RX0) (T := TX0) (N := 3) hx hb hts hinX0 tyX0 tyX0_ok nmX0 hown hK hP hD hS 0 rfl rfl 1 (by decide) q6 (fun _ h9 => h9) rfl (by decide +kernel) rfl rfl (Nat.le_of_ble_eq_true rfl) dX0_init_14 (fun H locs hP hD hS => ?_)
  have hP : va_P D vwCl [(h0, .inr (0, [.ref q1, .int 0, .int 0])), (q1, .inl (cS, 5, .inr (.inr (.inr (.inr (fun _ => none))))))] H := hP
  have hD : va_D A [(h0, .inr (0, [.ref q1, .int 0, .int 0])), (q1, .inl (cS, 5, .inr (.inr (.inr (.inr (fun _ => none))))))] := hD
  refine lv_aload_n hx hb dX0_init_17 rfl (lv_at hl 0 rfl) ?_
  refine lv_iconst (v := 0) hx hb dX0_init_18 (by decide) ?_
  refine va_put (D := D) (ci := 0) (v := .int 0) (ty := .int) (C := RX0) (T := TX0) (N := 3) hx hb hts hinX0 tyX0 tyX0_ok nmX0 hown hK hP hD hS 0 rfl rfl 2 (by decide) q7 (fun _ h9 => h9) rfl (by decide +kernel) rfl rfl (Nat.le_of_ble_eq_true rfl) dX0_init_19 (fun H locs hP hD hS => ?_)
  have hP : va_P D vwCl [(h0, .inr (0, [.ref q1, .int 0, .int 0])), (q1, .inl (cS, 5, .inr (.inr (.inr (.inr (fun _ => none))))))] H := hP
  have hD : va_D A [(h0, .inr (0, [.ref q1, .int 0, .int 0])), (q1, .inl (cS, 5, .inr (.inr (.inr (.inr (fun _ => none))))))] := hD
  refine lv_iconst (v := 0) hx hb dX0_init_22 (by decide) ?_
  refine lv_istore_n (lv' := [(1, .int 0), (0, .ref h0)]) hx hb dX0_init_23 rfl hl (by decide) rfl (fun ls hl => ?_)
  refine lv_iload_n hx hb dX0_init_24 rfl (lv_at hl 0 rfl) ?_
  refine lv_aload_n hx hb dX0_init_25 rfl (lv_at hl 1 rfl) ?_
  refine va_get (D := D) (ci := 0) (v := .ref q1) (C := RX0) (T := TX0) (N := 3) hx hb hts hinX0 hown hK hP 0 rfl rfl 0 (by decide) q5 (fun _ h9 => h9) rfl dX0_init_26 ?_
  refine va_alen hx hb hK hP 1 2 rfl rfl (v := 5) (show Int32.ofNat 5 = 5 by decide) dX0_init_29 ?_
  refine lv_icmp_ge (tgt := 52) hx hb dX0_init_30 (by decide) (fun c0 => absurd c0 (by decide)) (fun _ => ?_)
  refine lv_aload_n hx hb dX0_init_33 rfl (lv_at hl 1 rfl) ?_
  refine va_get (D := D) (ci := 0) (v := .ref q1) (C := RX0) (T := TX0) (N := 3) hx hb hts hinX0 hown hK hP 0 rfl rfl 0 (by decide) q5 (fun _ h9 => h9) rfl dX0_init_34 ?_
  refine lv_iload_n hx hb dX0_init_37 rfl (lv_at hl 0 rfl) ?_
  refine va_new (D := D) (cl := vwCl) (ci := 1) (fs := [.null, .null, .null, .null, .null, .null, .null, .null, .int 0, .int 0, .int 0, .int 0, .int 0, .int 0, .int 0, .int 0]) (C := RX1) (T := TX1) (N := 16) hx hb hts hinX1 tyX1 tyX1_ok hown q4 q8 q9 hK hP hD hS hA rfl (by intro j hj; rcases (show j = 0 ∨ j = 1 ∨ j = 2 ∨ j = 3 ∨ j = 4 ∨ j = 5 ∨ j = 6 ∨ j = 7 ∨ j = 8 ∨ j = 9 ∨ j = 10 ∨ j = 11 ∨ j = 12 ∨ j = 13 ∨ j = 14 ∨ j = 15 by omega) with rfl | rfl | rfl | rfl | rfl | rfl | rfl | rfl | rfl | rfl | rfl | rfl | rfl | rfl | rfl | rfl <;> rfl) hmc2 hms2 dX0_init_38 (fun o2 H hP hD hS => ?_)
  have hP : va_P D vwCl ([(h0, .inr (0, [.ref q1, .int 0, .int 0])), (q1, .inl (cS, 5, .inr (.inr (.inr (.inr (fun _ => none))))))] ++ [(o2, .inr (1, [.null, .null, .null, .null, .null, .null, .null, .null, .int 0, .int 0, .int 0, .int 0, .int 0, .int 0, .int 0, .int 0]))]) H := hP
  have hD : va_D A ([(h0, .inr (0, [.ref q1, .int 0, .int 0])), (q1, .inl (cS, 5, .inr (.inr (.inr (.inr (fun _ => none))))))] ++ [(o2, .inr (1, [.null, .null, .null, .null, .null, .null, .null, .null, .int 0, .int 0, .int 0, .int 0, .int 0, .int 0, .int 0, .int 0]))]) := hD
  refine lv_dup hx hb dX0_init_41 rfl ?_
  refine kcC (mc := 13) (ms := 1291) (As := []) (rest := [.ref o2, .int 0, .ref q1]) E.1 (cx1_init E o2) hX (cwI 0 hts gX0_init_X1_init rfl rfl rfl q9 q10 q11 rfl (by decide +kernel) ⟨Nat.le_of_ble_eq_true rfl, Nat.le_of_ble_eq_true rfl⟩) hKs hP hD hS hA [(h0, .inr (0, [.ref q1, .int 0, .int 0])), (q1, .inl (cS, 5, .inr (.inr (.inr (.inr (fun _ => none))))))] [] (wi := [(o2, .inr (1, [.null, .null, .null, .null, .null, .null, .null, .null, .int 0, .int 0, .int 0, .int 0, .int 0, .int 0, .int 0, .int 0]))]) (by first | rfl | (simp only [List.append_assoc]; rfl)) rfl rfl hl.1 (Nat.le_of_ble_eq_true rfl) dX0_init_42 ⟨hmc15, hms15⟩ (fun w2 g2 H locs hP hD hS => ?_)
  obtain ⟨a3, ea3, rfl⟩ := g2
  rw [List.append_nil] at hP hD
  rw [← ea3]
  have hP : va_P D vwCl ([(h0, .inr (0, [.ref q1, .int 0, .int 0])), (q1, .inl (cS, 5, .inr (.inr (.inr (.inr (fun _ => none))))))] ++ stW cI a3 iS0) H := hP
  have hD : va_D A ([(h0, .inr (0, [.ref q1, .int 0, .int 0])), (q1, .inl (cS, 5, .inr (.inr (.inr (.inr (fun _ => none))))))] ++ stW cI a3 iS0) := hD
  refine kAstq hx hb hK hP hD hS 1 2 2 1 (k := 0) rfl rfl rfl rfl (by unfold vp_in; decide) (by decide) dX0_init_45 (fun H locs hP hD hS => ?_)
  have hP : va_P D vwCl ([(h0, .inr (0, [.ref q1, .int 0, .int 0])), (q1, .inl (cS, 5, .inr (.inr (.inr (.inr (va_up (fun _ => none) 0 (some (a3 0))))))))] ++ stW cI a3 iS0) H := hP
  have hD : va_D A ([(h0, .inr (0, [.ref q1, .int 0, .int 0])), (q1, .inl (cS, 5, .inr (.inr (.inr (.inr (va_up (fun _ => none) 0 (some (a3 0))))))))] ++ stW cI a3 iS0) := hD
  refine lv_iinc (v := 1) (lv' := [(1, .int 1), (0, .ref h0)]) hx hb dX0_init_46 hl (k := 0) rfl (by decide) (by decide) rfl (fun ls hl => ?_)
  refine lv_goto (tgt := 24) hx hb dX0_init_49 (by decide) ?_
  refine lv_iload_n hx hb dX0_init_24 rfl (lv_at hl 0 rfl) ?_
  refine lv_aload_n hx hb dX0_init_25 rfl (lv_at hl 1 rfl) ?_
  refine va_get (D := D) (ci := 0) (v := .ref q1) (C := RX0) (T := TX0) (N := 3) hx hb hts hinX0 hown hK hP 0 rfl rfl 0 (by decide) q5 (fun _ h9 => h9) rfl dX0_init_26 ?_
  refine va_alen hx hb hK hP 1 2 rfl rfl (v := 5) (show Int32.ofNat 5 = 5 by decide) dX0_init_29 ?_
  refine lv_icmp_ge (tgt := 52) hx hb dX0_init_30 (by decide) (fun c0 => absurd c0 (by decide)) (fun _ => ?_)
  refine lv_aload_n hx hb dX0_init_33 rfl (lv_at hl 1 rfl) ?_
  refine va_get (D := D) (ci := 0) (v := .ref q1) (C := RX0) (T := TX0) (N := 3) hx hb hts hinX0 hown hK hP 0 rfl rfl 0 (by decide) q5 (fun _ h9 => h9) rfl dX0_init_34 ?_
  refine lv_iload_n hx hb dX0_init_37 rfl (lv_at hl 0 rfl) ?_
  refine va_new (D := D) (cl := vwCl) (ci := 1) (fs := [.null, .null, .null, .null, .null, .null, .null, .null, .int 0, .int 0, .int 0, .int 0, .int 0, .int 0, .int 0, .int 0]) (C := RX1) (T := TX1) (N := 16) hx hb hts hinX1 tyX1 tyX1_ok hown q4 q8 q9 hK hP hD hS hA rfl (by intro j hj; rcases (show j = 0 ∨ j = 1 ∨ j = 2 ∨ j = 3 ∨ j = 4 ∨ j = 5 ∨ j = 6 ∨ j = 7 ∨ j = 8 ∨ j = 9 ∨ j = 10 ∨ j = 11 ∨ j = 12 ∨ j = 13 ∨ j = 14 ∨ j = 15 by omega) with rfl | rfl | rfl | rfl | rfl | rfl | rfl | rfl | rfl | rfl | rfl | rfl | rfl | rfl | rfl | rfl <;> rfl) hmc16 hms16 dX0_init_38 (fun o4 H hP hD hS => ?_)
  have hP : va_P D vwCl (([(h0, .inr (0, [.ref q1, .int 0, .int 0])), (q1, .inl (cS, 5, .inr (.inr (.inr (.inr (va_up (fun _ => none) 0 (some (a3 0))))))))] ++ stW cI a3 iS0) ++ [(o4, .inr (1, [.null, .null, .null, .null, .null, .null, .null, .null, .int 0, .int 0, .int 0, .int 0, .int 0, .int 0, .int 0, .int 0]))]) H := hP
  have hD : va_D A (([(h0, .inr (0, [.ref q1, .int 0, .int 0])), (q1, .inl (cS, 5, .inr (.inr (.inr (.inr (va_up (fun _ => none) 0 (some (a3 0))))))))] ++ stW cI a3 iS0) ++ [(o4, .inr (1, [.null, .null, .null, .null, .null, .null, .null, .null, .int 0, .int 0, .int 0, .int 0, .int 0, .int 0, .int 0, .int 0]))]) := hD
  refine lv_dup hx hb dX0_init_41 rfl ?_
  refine kcC (mc := 13) (ms := 1291) (As := []) (rest := [.ref o4, .int 1, .ref q1]) E.1 (cx1_init E o4) hX (cwI 0 hts gX0_init_X1_init rfl rfl rfl q9 q10 q11 rfl (by decide +kernel) ⟨Nat.le_of_ble_eq_true rfl, Nat.le_of_ble_eq_true rfl⟩) hKs hP hD hS hA ([(h0, .inr (0, [.ref q1, .int 0, .int 0])), (q1, .inl (cS, 5, .inr (.inr (.inr (.inr (va_up (fun _ => none) 0 (some (a3 0))))))))] ++ stW cI a3 iS0) [] (wi := [(o4, .inr (1, [.null, .null, .null, .null, .null, .null, .null, .null, .int 0, .int 0, .int 0, .int 0, .int 0, .int 0, .int 0, .int 0]))]) (by first | rfl | (simp only [List.append_assoc]; rfl)) rfl rfl hl.1 (Nat.le_of_ble_eq_true rfl) dX0_init_42 ⟨hmc29, hms29⟩ (fun w2 g2 H locs hP hD hS => ?_)
  obtain ⟨a5, ea5, rfl⟩ := g2
  rw [List.append_nil] at hP hD
  rw [← ea5]
  have hP : va_P D vwCl (([(h0, .inr (0, [.ref q1, .int 0, .int 0])), (q1, .inl (cS, 5, .inr (.inr (.inr (.inr (va_up (fun _ => none) 0 (some (a3 0))))))))] ++ stW cI a3 iS0) ++ stW cI a5 iS0) H := hP
  have hD : va_D A (([(h0, .inr (0, [.ref q1, .int 0, .int 0])), (q1, .inl (cS, 5, .inr (.inr (.inr (.inr (va_up (fun _ => none) 0 (some (a3 0))))))))] ++ stW cI a3 iS0) ++ stW cI a5 iS0) := hD
  refine kAstq hx hb hK hP hD hS 1 2 16 1 (k := 1) rfl rfl rfl rfl (by unfold vp_in; decide) (by decide) dX0_init_45 (fun H locs hP hD hS => ?_)
  have hP : va_P D vwCl (([(h0, .inr (0, [.ref q1, .int 0, .int 0])), (q1, .inl (cS, 5, .inr (.inr (.inr (.inr (va_up (va_up (fun _ => none) 0 (some (a3 0))) 1 (some (a5 0))))))))] ++ stW cI a3 iS0) ++ stW cI a5 iS0) H := hP
  have hD : va_D A (([(h0, .inr (0, [.ref q1, .int 0, .int 0])), (q1, .inl (cS, 5, .inr (.inr (.inr (.inr (va_up (va_up (fun _ => none) 0 (some (a3 0))) 1 (some (a5 0))))))))] ++ stW cI a3 iS0) ++ stW cI a5 iS0) := hD
  refine lv_iinc (v := 2) (lv' := [(1, .int 2), (0, .ref h0)]) hx hb dX0_init_46 hl (k := 0) rfl (by decide) (by decide) rfl (fun ls hl => ?_)
  refine lv_goto (tgt := 24) hx hb dX0_init_49 (by decide) ?_
  refine lv_iload_n hx hb dX0_init_24 rfl (lv_at hl 0 rfl) ?_
  refine lv_aload_n hx hb dX0_init_25 rfl (lv_at hl 1 rfl) ?_
  refine va_get (D := D) (ci := 0) (v := .ref q1) (C := RX0) (T := TX0) (N := 3) hx hb hts hinX0 hown hK hP 0 rfl rfl 0 (by decide) q5 (fun _ h9 => h9) rfl dX0_init_26 ?_
  refine va_alen hx hb hK hP 1 2 rfl rfl (v := 5) (show Int32.ofNat 5 = 5 by decide) dX0_init_29 ?_
  refine lv_icmp_ge (tgt := 52) hx hb dX0_init_30 (by decide) (fun c0 => absurd c0 (by decide)) (fun _ => ?_)
  refine lv_aload_n hx hb dX0_init_33 rfl (lv_at hl 1 rfl) ?_
  refine va_get (D := D) (ci := 0) (v := .ref q1) (C := RX0) (T := TX0) (N := 3) hx hb hts hinX0 hown hK hP 0 rfl rfl 0 (by decide) q5 (fun _ h9 => h9) rfl dX0_init_34 ?_
  refine lv_iload_n hx hb dX0_init_37 rfl (lv_at hl 0 rfl) ?_
  refine va_new (D := D) (cl := vwCl) (ci := 1) (fs := [.null, .null, .null, .null, .null, .null, .null, .null, .int 0, .int 0, .int 0, .int 0, .int 0, .int 0, .int 0, .int 0]) (C := RX1) (T := TX1) (N := 16) hx hb hts hinX1 tyX1 tyX1_ok hown q4 q8 q9 hK hP hD hS hA rfl (by intro j hj; rcases (show j = 0 ∨ j = 1 ∨ j = 2 ∨ j = 3 ∨ j = 4 ∨ j = 5 ∨ j = 6 ∨ j = 7 ∨ j = 8 ∨ j = 9 ∨ j = 10 ∨ j = 11 ∨ j = 12 ∨ j = 13 ∨ j = 14 ∨ j = 15 by omega) with rfl | rfl | rfl | rfl | rfl | rfl | rfl | rfl | rfl | rfl | rfl | rfl | rfl | rfl | rfl | rfl <;> rfl) hmc30 hms30 dX0_init_38 (fun o6 H hP hD hS => ?_)
  have hP : va_P D vwCl ((([(h0, .inr (0, [.ref q1, .int 0, .int 0])), (q1, .inl (cS, 5, .inr (.inr (.inr (.inr (va_up (va_up (fun _ => none) 0 (some (a3 0))) 1 (some (a5 0))))))))] ++ stW cI a3 iS0) ++ stW cI a5 iS0) ++ [(o6, .inr (1, [.null, .null, .null, .null, .null, .null, .null, .null, .int 0, .int 0, .int 0, .int 0, .int 0, .int 0, .int 0, .int 0]))]) H := hP
  have hD : va_D A ((([(h0, .inr (0, [.ref q1, .int 0, .int 0])), (q1, .inl (cS, 5, .inr (.inr (.inr (.inr (va_up (va_up (fun _ => none) 0 (some (a3 0))) 1 (some (a5 0))))))))] ++ stW cI a3 iS0) ++ stW cI a5 iS0) ++ [(o6, .inr (1, [.null, .null, .null, .null, .null, .null, .null, .null, .int 0, .int 0, .int 0, .int 0, .int 0, .int 0, .int 0, .int 0]))]) := hD
  refine lv_dup hx hb dX0_init_41 rfl ?_
  refine kcC (mc := 13) (ms := 1291) (As := []) (rest := [.ref o6, .int 2, .ref q1]) E.1 (cx1_init E o6) hX (cwI 0 hts gX0_init_X1_init rfl rfl rfl q9 q10 q11 rfl (by decide +kernel) ⟨Nat.le_of_ble_eq_true rfl, Nat.le_of_ble_eq_true rfl⟩) hKs hP hD hS hA (([(h0, .inr (0, [.ref q1, .int 0, .int 0])), (q1, .inl (cS, 5, .inr (.inr (.inr (.inr (va_up (va_up (fun _ => none) 0 (some (a3 0))) 1 (some (a5 0))))))))] ++ stW cI a3 iS0) ++ stW cI a5 iS0) [] (wi := [(o6, .inr (1, [.null, .null, .null, .null, .null, .null, .null, .null, .int 0, .int 0, .int 0, .int 0, .int 0, .int 0, .int 0, .int 0]))]) (by first | rfl | (simp only [List.append_assoc]; rfl)) rfl rfl hl.1 (Nat.le_of_ble_eq_true rfl) dX0_init_42 ⟨hmc43, hms43⟩ (fun w2 g2 H locs hP hD hS => ?_)
  obtain ⟨a7, ea7, rfl⟩ := g2
  rw [List.append_nil] at hP hD
  rw [← ea7]
  have hP : va_P D vwCl ((([(h0, .inr (0, [.ref q1, .int 0, .int 0])), (q1, .inl (cS, 5, .inr (.inr (.inr (.inr (va_up (va_up (fun _ => none) 0 (some (a3 0))) 1 (some (a5 0))))))))] ++ stW cI a3 iS0) ++ stW cI a5 iS0) ++ stW cI a7 iS0) H := hP
  have hD : va_D A ((([(h0, .inr (0, [.ref q1, .int 0, .int 0])), (q1, .inl (cS, 5, .inr (.inr (.inr (.inr (va_up (va_up (fun _ => none) 0 (some (a3 0))) 1 (some (a5 0))))))))] ++ stW cI a3 iS0) ++ stW cI a5 iS0) ++ stW cI a7 iS0) := hD
  refine kAstq hx hb hK hP hD hS 1 2 30 1 (k := 2) rfl rfl rfl rfl (by unfold vp_in; decide) (by decide) dX0_init_45 (fun H locs hP hD hS => ?_)
  have hP : va_P D vwCl ((([(h0, .inr (0, [.ref q1, .int 0, .int 0])), (q1, .inl (cS, 5, .inr (.inr (.inr (.inr (va_up (va_up (va_up (fun _ => none) 0 (some (a3 0))) 1 (some (a5 0))) 2 (some (a7 0))))))))] ++ stW cI a3 iS0) ++ stW cI a5 iS0) ++ stW cI a7 iS0) H := hP
  have hD : va_D A ((([(h0, .inr (0, [.ref q1, .int 0, .int 0])), (q1, .inl (cS, 5, .inr (.inr (.inr (.inr (va_up (va_up (va_up (fun _ => none) 0 (some (a3 0))) 1 (some (a5 0))) 2 (some (a7 0))))))))] ++ stW cI a3 iS0) ++ stW cI a5 iS0) ++ stW cI a7 iS0) := hD
  refine lv_iinc (v := 3) (lv' := [(1, .int 3), (0, .ref h0)]) hx hb dX0_init_46 hl (k := 0) rfl (by decide) (by decide) rfl (fun ls hl => ?_)
  refine lv_goto (tgt := 24) hx hb dX0_init_49 (by decide) ?_
  refine lv_iload_n hx hb dX0_init_24 rfl (lv_at hl 0 rfl) ?_
  refine lv_aload_n hx hb dX0_init_25 rfl (lv_at hl 1 rfl) ?_
  refine va_get (D := D) (ci := 0) (v := .ref q1) (C := RX0) (T := TX0) (N := 3) hx hb hts hinX0 hown hK hP 0 rfl rfl 0 (by decide) q5 (fun _ h9 => h9) rfl dX0_init_26 ?_
  refine va_alen hx hb hK hP 1 2 rfl rfl (v := 5) (show Int32.ofNat 5 = 5 by decide) dX0_init_29 ?_
  refine lv_icmp_ge (tgt := 52) hx hb dX0_init_30 (by decide) (fun c0 => absurd c0 (by decide)) (fun _ => ?_)
  refine lv_aload_n hx hb dX0_init_33 rfl (lv_at hl 1 rfl) ?_
  refine va_get (D := D) (ci := 0) (v := .ref q1) (C := RX0) (T := TX0) (N := 3) hx hb hts hinX0 hown hK hP 0 rfl rfl 0 (by decide) q5 (fun _ h9 => h9) rfl dX0_init_34 ?_
  refine lv_iload_n hx hb dX0_init_37 rfl (lv_at hl 0 rfl) ?_
  refine va_new (D := D) (cl := vwCl) (ci := 1) (fs := [.null, .null, .null, .null, .null, .null, .null, .null, .int 0, .int 0, .int 0, .int 0, .int 0, .int 0, .int 0, .int 0]) (C := RX1) (T := TX1) (N := 16) hx hb hts hinX1 tyX1 tyX1_ok hown q4 q8 q9 hK hP hD hS hA rfl (by intro j hj; rcases (show j = 0 ∨ j = 1 ∨ j = 2 ∨ j = 3 ∨ j = 4 ∨ j = 5 ∨ j = 6 ∨ j = 7 ∨ j = 8 ∨ j = 9 ∨ j = 10 ∨ j = 11 ∨ j = 12 ∨ j = 13 ∨ j = 14 ∨ j = 15 by omega) with rfl | rfl | rfl | rfl | rfl | rfl | rfl | rfl | rfl | rfl | rfl | rfl | rfl | rfl | rfl | rfl <;> rfl) hmc44 hms44 dX0_init_38 (fun o8 H hP hD hS => ?_)
  have hP : va_P D vwCl (((([(h0, .inr (0, [.ref q1, .int 0, .int 0])), (q1, .inl (cS, 5, .inr (.inr (.inr (.inr (va_up (va_up (va_up (fun _ => none) 0 (some (a3 0))) 1 (some (a5 0))) 2 (some (a7 0))))))))] ++ stW cI a3 iS0) ++ stW cI a5 iS0) ++ stW cI a7 iS0) ++ [(o8, .inr (1, [.null, .null, .null, .null, .null, .null, .null, .null, .int 0, .int 0, .int 0, .int 0, .int 0, .int 0, .int 0, .int 0]))]) H := hP
  have hD : va_D A (((([(h0, .inr (0, [.ref q1, .int 0, .int 0])), (q1, .inl (cS, 5, .inr (.inr (.inr (.inr (va_up (va_up (va_up (fun _ => none) 0 (some (a3 0))) 1 (some (a5 0))) 2 (some (a7 0))))))))] ++ stW cI a3 iS0) ++ stW cI a5 iS0) ++ stW cI a7 iS0) ++ [(o8, .inr (1, [.null, .null, .null, .null, .null, .null, .null, .null, .int 0, .int 0, .int 0, .int 0, .int 0, .int 0, .int 0, .int 0]))]) := hD
  refine lv_dup hx hb dX0_init_41 rfl ?_
  refine kcC (mc := 13) (ms := 1291) (As := []) (rest := [.ref o8, .int 3, .ref q1]) E.1 (cx1_init E o8) hX (cwI 0 hts gX0_init_X1_init rfl rfl rfl q9 q10 q11 rfl (by decide +kernel) ⟨Nat.le_of_ble_eq_true rfl, Nat.le_of_ble_eq_true rfl⟩) hKs hP hD hS hA ((([(h0, .inr (0, [.ref q1, .int 0, .int 0])), (q1, .inl (cS, 5, .inr (.inr (.inr (.inr (va_up (va_up (va_up (fun _ => none) 0 (some (a3 0))) 1 (some (a5 0))) 2 (some (a7 0))))))))] ++ stW cI a3 iS0) ++ stW cI a5 iS0) ++ stW cI a7 iS0) [] (wi := [(o8, .inr (1, [.null, .null, .null, .null, .null, .null, .null, .null, .int 0, .int 0, .int 0, .int 0, .int 0, .int 0, .int 0, .int 0]))]) (by first | rfl | (simp only [List.append_assoc]; rfl)) rfl rfl hl.1 (Nat.le_of_ble_eq_true rfl) dX0_init_42 ⟨hmc57, hms57⟩ (fun w2 g2 H locs hP hD hS => ?_)
  obtain ⟨a9, ea9, rfl⟩ := g2
  rw [List.append_nil] at hP hD
  rw [← ea9]
  have hP : va_P D vwCl (((([(h0, .inr (0, [.ref q1, .int 0, .int 0])), (q1, .inl (cS, 5, .inr (.inr (.inr (.inr (va_up (va_up (va_up (fun _ => none) 0 (some (a3 0))) 1 (some (a5 0))) 2 (some (a7 0))))))))] ++ stW cI a3 iS0) ++ stW cI a5 iS0) ++ stW cI a7 iS0) ++ stW cI a9 iS0) H := hP
  have hD : va_D A (((([(h0, .inr (0, [.ref q1, .int 0, .int 0])), (q1, .inl (cS, 5, .inr (.inr (.inr (.inr (va_up (va_up (va_up (fun _ => none) 0 (some (a3 0))) 1 (some (a5 0))) 2 (some (a7 0))))))))] ++ stW cI a3 iS0) ++ stW cI a5 iS0) ++ stW cI a7 iS0) ++ stW cI a9 iS0) := hD
  refine kAstq hx hb hK hP hD hS 1 2 44 1 (k := 3) rfl rfl rfl rfl (by unfold vp_in; decide) (by decide) dX0_init_45 (fun H locs hP hD hS => ?_)
  have hP : va_P D vwCl (((([(h0, .inr (0, [.ref q1, .int 0, .int 0])), (q1, .inl (cS, 5, .inr (.inr (.inr (.inr (va_up (va_up (va_up (va_up (fun _ => none) 0 (some (a3 0))) 1 (some (a5 0))) 2 (some (a7 0))) 3 (some (a9 0))))))))] ++ stW cI a3 iS0) ++ stW cI a5 iS0) ++ stW cI a7 iS0) ++ stW cI a9 iS0) H := hP
  have hD : va_D A (((([(h0, .inr (0, [.ref q1, .int 0, .int 0])), (q1, .inl (cS, 5, .inr (.inr (.inr (.inr (va_up (va_up (va_up (va_up (fun _ => none) 0 (some (a3 0))) 1 (some (a5 0))) 2 (some (a7 0))) 3 (some (a9 0))))))))] ++ stW cI a3 iS0) ++ stW cI a5 iS0) ++ stW cI a7 iS0) ++ stW cI a9 iS0) := hD
  refine lv_iinc (v := 4) (lv' := [(1, .int 4), (0, .ref h0)]) hx hb dX0_init_46 hl (k := 0) rfl (by decide) (by decide) rfl (fun ls hl => ?_)
  refine lv_goto (tgt := 24) hx hb dX0_init_49 (by decide) ?_
  refine lv_iload_n hx hb dX0_init_24 rfl (lv_at hl 0 rfl) ?_
  refine lv_aload_n hx hb dX0_init_25 rfl (lv_at hl 1 rfl) ?_
  refine va_get (D := D) (ci := 0) (v := .ref q1) (C := RX0) (T := TX0) (N := 3) hx hb hts hinX0 hown hK hP 0 rfl rfl 0 (by decide) q5 (fun _ h9 => h9) rfl dX0_init_26 ?_
  refine va_alen hx hb hK hP 1 2 rfl rfl (v := 5) (show Int32.ofNat 5 = 5 by decide) dX0_init_29 ?_
  refine lv_icmp_ge (tgt := 52) hx hb dX0_init_30 (by decide) (fun c0 => absurd c0 (by decide)) (fun _ => ?_)
  refine lv_aload_n hx hb dX0_init_33 rfl (lv_at hl 1 rfl) ?_
  refine va_get (D := D) (ci := 0) (v := .ref q1) (C := RX0) (T := TX0) (N := 3) hx hb hts hinX0 hown hK hP 0 rfl rfl 0 (by decide) q5 (fun _ h9 => h9) rfl dX0_init_34 ?_
  refine lv_iload_n hx hb dX0_init_37 rfl (lv_at hl 0 rfl) ?_
  refine va_new (D := D) (cl := vwCl) (ci := 1) (fs := [.null, .null, .null, .null, .null, .null, .null, .null, .int 0, .int 0, .int 0, .int 0, .int 0, .int 0, .int 0, .int 0]) (C := RX1) (T := TX1) (N := 16) hx hb hts hinX1 tyX1 tyX1_ok hown q4 q8 q9 hK hP hD hS hA rfl (by intro j hj; rcases (show j = 0 ∨ j = 1 ∨ j = 2 ∨ j = 3 ∨ j = 4 ∨ j = 5 ∨ j = 6 ∨ j = 7 ∨ j = 8 ∨ j = 9 ∨ j = 10 ∨ j = 11 ∨ j = 12 ∨ j = 13 ∨ j = 14 ∨ j = 15 by omega) with rfl | rfl | rfl | rfl | rfl | rfl | rfl | rfl | rfl | rfl | rfl | rfl | rfl | rfl | rfl | rfl <;> rfl) hmc58 hms58 dX0_init_38 (fun o10 H hP hD hS => ?_)
  have hP : va_P D vwCl ((((([(h0, .inr (0, [.ref q1, .int 0, .int 0])), (q1, .inl (cS, 5, .inr (.inr (.inr (.inr (va_up (va_up (va_up (va_up (fun _ => none) 0 (some (a3 0))) 1 (some (a5 0))) 2 (some (a7 0))) 3 (some (a9 0))))))))] ++ stW cI a3 iS0) ++ stW cI a5 iS0) ++ stW cI a7 iS0) ++ stW cI a9 iS0) ++ [(o10, .inr (1, [.null, .null, .null, .null, .null, .null, .null, .null, .int 0, .int 0, .int 0, .int 0, .int 0, .int 0, .int 0, .int 0]))]) H := hP
  have hD : va_D A ((((([(h0, .inr (0, [.ref q1, .int 0, .int 0])), (q1, .inl (cS, 5, .inr (.inr (.inr (.inr (va_up (va_up (va_up (va_up (fun _ => none) 0 (some (a3 0))) 1 (some (a5 0))) 2 (some (a7 0))) 3 (some (a9 0))))))))] ++ stW cI a3 iS0) ++ stW cI a5 iS0) ++ stW cI a7 iS0) ++ stW cI a9 iS0) ++ [(o10, .inr (1, [.null, .null, .null, .null, .null, .null, .null, .null, .int 0, .int 0, .int 0, .int 0, .int 0, .int 0, .int 0, .int 0]))]) := hD
  refine lv_dup hx hb dX0_init_41 rfl ?_
  refine kcC (mc := 13) (ms := 1291) (As := []) (rest := [.ref o10, .int 4, .ref q1]) E.1 (cx1_init E o10) hX (cwI 0 hts gX0_init_X1_init rfl rfl rfl q9 q10 q11 rfl (by decide +kernel) ⟨Nat.le_of_ble_eq_true rfl, Nat.le_of_ble_eq_true rfl⟩) hKs hP hD hS hA (((([(h0, .inr (0, [.ref q1, .int 0, .int 0])), (q1, .inl (cS, 5, .inr (.inr (.inr (.inr (va_up (va_up (va_up (va_up (fun _ => none) 0 (some (a3 0))) 1 (some (a5 0))) 2 (some (a7 0))) 3 (some (a9 0))))))))] ++ stW cI a3 iS0) ++ stW cI a5 iS0) ++ stW cI a7 iS0) ++ stW cI a9 iS0) [] (wi := [(o10, .inr (1, [.null, .null, .null, .null, .null, .null, .null, .null, .int 0, .int 0, .int 0, .int 0, .int 0, .int 0, .int 0, .int 0]))]) (by first | rfl | (simp only [List.append_assoc]; rfl)) rfl rfl hl.1 (Nat.le_of_ble_eq_true rfl) dX0_init_42 ⟨hmc71, hms71⟩ (fun w2 g2 H locs hP hD hS => ?_)
  obtain ⟨a11, ea11, rfl⟩ := g2
  rw [List.append_nil] at hP hD
  rw [← ea11]
  have hP : va_P D vwCl ((((([(h0, .inr (0, [.ref q1, .int 0, .int 0])), (q1, .inl (cS, 5, .inr (.inr (.inr (.inr (va_up (va_up (va_up (va_up (fun _ => none) 0 (some (a3 0))) 1 (some (a5 0))) 2 (some (a7 0))) 3 (some (a9 0))))))))] ++ stW cI a3 iS0) ++ stW cI a5 iS0) ++ stW cI a7 iS0) ++ stW cI a9 iS0) ++ stW cI a11 iS0) H := hP
  have hD : va_D A ((((([(h0, .inr (0, [.ref q1, .int 0, .int 0])), (q1, .inl (cS, 5, .inr (.inr (.inr (.inr (va_up (va_up (va_up (va_up (fun _ => none) 0 (some (a3 0))) 1 (some (a5 0))) 2 (some (a7 0))) 3 (some (a9 0))))))))] ++ stW cI a3 iS0) ++ stW cI a5 iS0) ++ stW cI a7 iS0) ++ stW cI a9 iS0) ++ stW cI a11 iS0) := hD
  refine kAstq hx hb hK hP hD hS 1 2 58 1 (k := 4) rfl rfl rfl rfl (by unfold vp_in; decide) (by decide) dX0_init_45 (fun H locs hP hD hS => ?_)
  have hP : va_P D vwCl ((((([(h0, .inr (0, [.ref q1, .int 0, .int 0])), (q1, .inl (cS, 5, .inr (.inr (.inr (.inr (va_up (va_up (va_up (va_up (va_up (fun _ => none) 0 (some (a3 0))) 1 (some (a5 0))) 2 (some (a7 0))) 3 (some (a9 0))) 4 (some (a11 0))))))))] ++ stW cI a3 iS0) ++ stW cI a5 iS0) ++ stW cI a7 iS0) ++ stW cI a9 iS0) ++ stW cI a11 iS0) H := hP
  have hD : va_D A ((((([(h0, .inr (0, [.ref q1, .int 0, .int 0])), (q1, .inl (cS, 5, .inr (.inr (.inr (.inr (va_up (va_up (va_up (va_up (va_up (fun _ => none) 0 (some (a3 0))) 1 (some (a5 0))) 2 (some (a7 0))) 3 (some (a9 0))) 4 (some (a11 0))))))))] ++ stW cI a3 iS0) ++ stW cI a5 iS0) ++ stW cI a7 iS0) ++ stW cI a9 iS0) ++ stW cI a11 iS0) := hD
  refine lv_iinc (v := 5) (lv' := [(1, .int 5), (0, .ref h0)]) hx hb dX0_init_46 hl (k := 0) rfl (by decide) (by decide) rfl (fun ls hl => ?_)
  refine lv_goto (tgt := 24) hx hb dX0_init_49 (by decide) ?_
  refine lv_iload_n hx hb dX0_init_24 rfl (lv_at hl 0 rfl) ?_
  refine lv_aload_n hx hb dX0_init_25 rfl (lv_at hl 1 rfl) ?_
  refine va_get (D := D) (ci := 0) (v := .ref q1) (C := RX0) (T := TX0) (N := 3) hx hb hts hinX0 hown hK hP 0 rfl rfl 0 (by decide) q5 (fun _ h9 => h9) rfl dX0_init_26 ?_
  refine va_alen hx hb hK hP 1 2 rfl rfl (v := 5) (show Int32.ofNat 5 = 5 by decide) dX0_init_29 ?_
  refine lv_icmp_ge (tgt := 52) hx hb dX0_init_30 (by decide) (fun _ => ?_) (fun c0 => absurd (by decide) c0)
  exact krC hx hb hr hlk hP hD hS dX0_init_52 ⟨q1, a3, a5, a7, a9, a11, by rw [hsI]; simp only [List.append_assoc]⟩ hmc71 hms71

theorem kb_Dm {A : Nat → Prop} {w w' : va_W} (h : va_D A w) (e : w'.map Prod.fst = w.map Prod.fst) : va_D A w' := by
  have g : ∀ (k : Nat) (q : Nat × va_E), w'[k]? = some q → ∃ q0, w[k]? = some q0 ∧ q0.1 = q.1 := by
    intro k q hk
    have h1 : (w'.map Prod.fst)[k]? = some q.1 := by rw [List.getElem?_map, hk]; rfl
    rw [e, List.getElem?_map] at h1
    cases h2 : w[k]? with
    | none => rw [h2] at h1; cases h1
    | some q0 => rw [h2] at h1; exact ⟨q0, rfl, Option.some.inj h1⟩
  refine ⟨fun i j p q hp hq hpq => ?_, fun k q hk => ?_⟩
  · obtain ⟨p0, e1, e2⟩ := g i p hp
    obtain ⟨q0, e3, e4⟩ := g j q hq
    exact h.1 i j p0 q0 e1 e3 (by rw [e2, e4, hpq])
  · obtain ⟨q0, e1, e2⟩ := g k q hk
    rw [← e2]
    exact h.2 k q0 e1
/-- the station as it begins -/
def iL0 : Nat → St := fun k => match k with
  | 7 => fun _ _ => 0
  | _ => iS0
def iaL (h0 h q t : Nat) (a b a0 a1 a2 a3 a4 : Nat → Nat) : Nat → Nat → Nat := fun k => match k with
  | 0 => a
  | 1 => b
  | 2 => a0
  | 3 => a1
  | 4 => a2
  | 5 => a3
  | 6 => a4
  | _ => fun i => ([h0, h, q, t] : List Nat).getD i 0
section LSI
variable {D : va_G} {A : Nat → Prop} {H : Heap} {cI cB cS : ClassId} {h0 h q t : Nat} {a b a0 a1 a2 a3 a4 : Nat → Nat}
def lsI (cI cB cS : ClassId) (h0 h q t : Nat) (a b a0 a1 a2 a3 a4 : Nat → Nat) : va_W := ((([(h0, .inr (3, [.ref (a 0), .ref (b 0), .ref h, .ref t, .int 0]))] ++ stW cI a iS0) ++ stW cI b iS0) ++ hsI cI cS h q a0 a1 a2 a3 a4) ++ [(t, .inl (cB, 80, .inl (fun _ => 0)))]
def lsI1 (cI cB cS : ClassId) (h0 h q t : Nat) (a b a0 a1 a2 a3 a4 : Nat → Nat) (f : Nat → Option Nat) : va_W := ([(h0, .inr (3, [.ref (a 0), .ref (b 0), .ref h, .ref t, .int 0]))] ++ (stW cI b iS0 ++ (stW cI a iS0 ++ [(h, .inr (0, [.ref q, .int 0, .int 0]))]))) ++ ((q, .inl (cS, 5, .inr (.inr (.inr (.inr f))))) :: ((stW cI a0 iS0 ++ (stW cI a1 iS0 ++ (stW cI a2 iS0 ++ (stW cI a3 iS0 ++ stW cI a4 iS0)))) ++ [(t, .inl (cB, 80, .inl (fun _ => 0)))]))
def lsf (a0 a1 a2 a3 a4 : Nat → Nat) : Nat → Option Nat := va_up (va_up (va_up (va_up (va_up (fun _ => none) 0 (some (a0 0))) 1 (some (a1 0))) 2 (some (a2 0))) 3 (some (a3 0))) 4 (some (a4 0))
theorem lsI_1 : [(h0, .inr (3, [.ref (a 0), .ref (b 0), .ref h, .ref t, .int 0]))] ++ (stW cI b iS0 ++ (stW cI a iS0 ++ (hsI cI cS h q a0 a1 a2 a3 a4 ++ [(t, .inl (cB, 80, .inl (fun _ => 0)))]))) = lsI1 cI cB cS h0 h q t a b a0 a1 a2 a3 a4 (lsf a0 a1 a2 a3 a4) := by
  unfold lsI1 hsI lsf
  simp only [List.append_assoc, List.cons_append, List.nil_append]
theorem lsI_2 : lsI1 cI cB cS h0 h q t a b a0 a1 a2 a3 a4 (fun j => some (iaL h0 h q t a b a0 a1 a2 a3 a4 (2 + j) 0)) = lsW cI cB cS (iaL h0 h q t a b a0 a1 a2 a3 a4) iL0 := by
  have e : lsW cI cB cS (iaL h0 h q t a b a0 a1 a2 a3 a4) iL0 = [(h0, .inr (3, [.ref (a 0), .ref (b 0), .ref h, .ref t, .int 0]))] ++ (stW cI b iS0 ++ (stW cI a iS0 ++ (([(h, .inr (0, [.ref q, .int 0, .int 0])), (q, .inl (cS, 5, .inr (.inr (.inr (.inr (fun j => some (iaL h0 h q t a b a0 a1 a2 a3 a4 (2 + j) 0)))))))] ++ (stW cI a0 iS0 ++ (stW cI a1 iS0 ++ (stW cI a2 iS0 ++ (stW cI a3 iS0 ++ stW cI a4 iS0))))) ++ [(t, .inl (cB, 80, .inl (fun _ => 0)))]))) := rfl
  rw [e]
  unfold lsI1
  simp only [List.append_assoc, List.cons_append, List.nil_append]
theorem lsI_P (hP : va_P D vwCl (lsI cI cB cS h0 h q t a b a0 a1 a2 a3 a4) H) : va_P D vwCl (lsW cI cB cS (iaL h0 h q t a b a0 a1 a2 a3 a4) iL0) H := by
  unfold lsI at hP
  rw [List.append_assoc, List.append_assoc, List.append_assoc] at hP
  have hP := ksw_P hP
  rw [lsI_1] at hP
  rw [← lsI_2]
  refine kb_arrq hP (fun j hj => ?_)
  rcases (show j = 0 ∨ j = 1 ∨ j = 2 ∨ j = 3 ∨ j = 4 by omega) with rfl | rfl | rfl | rfl | rfl <;> rfl
theorem lsI_D (hD : va_D A (lsI cI cB cS h0 h q t a b a0 a1 a2 a3 a4)) : va_D A (lsW cI cB cS (iaL h0 h q t a b a0 a1 a2 a3 a4) iL0) := by
  unfold lsI at hD
  rw [List.append_assoc, List.append_assoc, List.append_assoc] at hD
  have hD := ksw_D hD
  rw [lsI_1] at hD
  rw [← lsI_2]
  refine kb_Dm hD ?_
  unfold lsI1
  simp only [List.map_append, List.map_cons]
end LSI

set_option maxHeartbeats 4000000 in
set_option maxRecDepth 100000 in
theorem cx3_init {l : Launch} {D : va_G} {cI cB cS cJ : ClassId} {K : State → Prop} (E : kE D cI cB cS cJ K) (hAO0 : ∀ U, K U → va_AO RX1 U) (h0 : Nat) : kC l D K yX3_init wsX3_init 4 87 101 9237 [.ref h0] [(h0, .inr (3, [.null, .null, .null, .null, .int 0]))] (fun w2 => ∃ aL : Nat → Nat → Nat, aL 7 0 = h0 ∧ w2 = lsW cI cB cS aL iL0) := by
  refine kC_of (own := RX3) (cc := cX3_init) (maxL := 1) (tys := kty cI cB cS cJ) (fun U h => (E.2 U h).1) (by decide) rfl rfl (Nat.le_of_ble_eq_true rfl) rfl ?_
  intro p e s m below meth c A ls hx hb hr hml hts hown hlk hKs hK hP hD hA hS hl hini
  have hl : lv_has ls 1 [(0, .ref h0)] := hl
  have hX : CallFix p m c cX3_init 1 s _ wsX3_init RX3 := ⟨hx, hb, hml, hown, hts⟩
  have hinX1 : ∀ w ∈ wsX10, w ∈ wsX3_init := fun w h => List.mem_cons_of_mem _ (List.mem_append_left _ (List.mem_append_left _ (List.mem_append_left _ (List.mem_append_right _ h))))
  have hinX3 : ∀ w ∈ wsX30, w ∈ wsX3_init := fun w h => List.mem_cons_of_mem _ (List.mem_append_left _ (List.mem_append_left _ (List.mem_append_right _ h)))
  have hinX0 : ∀ w ∈ wsX00, w ∈ wsX3_init := fun w h => List.mem_cons_of_mem _ (List.mem_append_left _ (List.mem_append_right _ h))
  have q1 := hts (.methodLink RX3 1 objectInit) (List.mem_of_getElem? (i := 1) rfl)
  have q2 := hts (.instanceMethod objectInit) (List.mem_of_getElem? (i := 2) rfl)
  have q3 := hts (.code objectInit ⟨#[0xb1]⟩ 1 none) (List.mem_of_getElem? (i := 3) rfl)
  have q4 := hts (.classLink RX3 7 RX1) (List.mem_of_getElem? (i := 4) rfl)
  have q5 := hts (.instantiable RX1 16) (List.mem_of_getElem? (i := 5) rfl)
  have q6 := hts (.initialized RX1) (List.mem_of_getElem? (i := 6) rfl)
  have q7 := hts (.fieldLink RX3 10 "LabelStation" "state" "LLabelStation$State;") (List.mem_of_getElem? (i := 7) rfl)
  have q8 := hts (.fieldLink RX3 16 "LabelStation" "trial" "LLabelStation$State;") (List.mem_of_getElem? (i := 8) rfl)
  have q9 := hts (.classLink RX3 19 RX0) (List.mem_of_getElem? (i := 9) rfl)
  have q10 := hts (.instantiable RX0 3) (List.mem_of_getElem? (i := 10) rfl)
  have q11 := hts (.initialized RX0) (List.mem_of_getElem? (i := 11) rfl)
  have q12 := hts (.fieldLink RX3 22 "LabelStation" "history" "LLabelStation$History;") (List.mem_of_getElem? (i := 12) rfl)
  have q13 := hts (.arrayClass .byte) (List.mem_of_getElem? (i := 13) rfl)
  have q14 := hts (.fieldLink RX3 26 "LabelStation" "text" "[B") (List.mem_of_getElem? (i := 14) rfl)
  have q15 := hts (.fieldLink RX3 30 "LabelStation" "textLength" "I") (List.mem_of_getElem? (i := 15) rfl)
  have q16 := hts (.methodLink RX3 9 yX1_init) (List.mem_of_getElem? (i := 16) rfl)
  have q17 := hts (.instanceMethod yX1_init) (List.mem_of_getElem? (i := 17) rfl)
  have q52 := hts (.methodLink RX3 21 yX0_init) (List.mem_of_getElem? (i := 52) rfl)
  have q53 := hts (.instanceMethod yX0_init) (List.mem_of_getElem? (i := 53) rfl)
  have hmc1 : 1 ≤ 101 := by decide
  have hmc14 : 14 ≤ 101 := by decide
  have hmc15 : 15 ≤ 101 := by decide
  have hmc28 : 28 ≤ 101 := by decide
  have hmc29 : 29 ≤ 101 := by decide
  have hmc100 : 100 ≤ 101 := by decide
  have hmc101 : 101 ≤ 101 := by decide
  have hms1 : 0 + 16 ≤ 9237 := by omega
  have hms14 : 0 + 16 + 1291 ≤ 9237 := by omega
  have hms15 : 0 + 16 + 1291 + 16 ≤ 9237 := by omega
  have hms28 : 0 + 16 + 1291 + 16 + 1291 ≤ 9237 := by omega
  have hms29 : 0 + 16 + 1291 + 16 + 1291 + 3 ≤ 9237 := by omega
  have hms100 : 0 + 16 + 1291 + 16 + 1291 + 3 + 6540 ≤ 9237 := by omega
  have hms101 : 0 + 16 + 1291 + 16 + 1291 + 3 + 6540 + 80 ≤ 9237 := by omega
  refine lv_aload_n hx hb dX3_init_0 rfl (lv_at hl 0 rfl) ?_
  refine W.objInit hx hb hown q1 q2 q3 rfl (by rw [hml]; exact hl.1) rfl dX3_init_1 (Nat.le_of_ble_eq_true rfl) (Nat.le_of_ble_eq_true rfl) ?_
  refine W.eq (g2 := F0 m 4 ls []) rfl ?_
  refine lv_aload_n hx hb dX3_init_4 rfl (lv_at hl 0 rfl) ?_
  refine va_new (D := D) (cl := vwCl) (ci := 1) (fs := [.null, .null, .null, .null, .null, .null, .null, .null, .int 0, .int 0, .int 0, .int 0, .int 0, .int 0, .int 0, .int 0]) (C := RX1) (T := TX1) (N := 16) hx hb hts hinX1 tyX1 tyX1_ok hown q4 q5 q6 hK hP hD hS hA rfl (by intro j hj; rcases (show j = 0 ∨ j = 1 ∨ j = 2 ∨ j = 3 ∨ j = 4 ∨ j = 5 ∨ j = 6 ∨ j = 7 ∨ j = 8 ∨ j = 9 ∨ j = 10 ∨ j = 11 ∨ j = 12 ∨ j = 13 ∨ j = 14 ∨ j = 15 by omega) with rfl | rfl | rfl | rfl | rfl | rfl | rfl | rfl | rfl | rfl | rfl | rfl | rfl | rfl | rfl | rfl <;> rfl) hmc1 hms1 dX3_init_5 (fun o1 H hP hD hS => ?_)
  have hP : va_P D vwCl ([(h0, .inr (3, [.null, .null, .null, .null, .int 0]))] ++ [(o1, .inr (1, [.null, .null, .null, .null, .null, .null, .null, .null, .int 0, .int 0, .int 0, .int 0, .int 0, .int 0, .int 0, .int 0]))]) H := hP
  have hD : va_D A ([(h0, .inr (3, [.null, .null, .null, .null, .int 0]))] ++ [(o1, .inr (1, [.null, .null, .null, .null, .null, .null, .null, .null, .int 0, .int 0, .int 0, .int 0, .int 0, .int 0, .int 0, .int 0]))]) := hD
  refine lv_dup hx hb dX3_init_8 rfl ?_
  refine kcC (mc := 13) (ms := 1291) (As := []) (rest := [.ref o1, .ref h0]) E.1 (cx1_init E o1) hX (cwI 0 hts gX3_init_X1_init rfl rfl rfl q6 q16 q17 rfl (by decide +kernel) ⟨Nat.le_of_ble_eq_true rfl, Nat.le_of_ble_eq_true rfl⟩) hKs hP hD hS hA [(h0, .inr (3, [.null, .null, .null, .null, .int 0]))] [] (wi := [(o1, .inr (1, [.null, .null, .null, .null, .null, .null, .null, .null, .int 0, .int 0, .int 0, .int 0, .int 0, .int 0, .int 0, .int 0]))]) (by first | rfl | (simp only [List.append_assoc]; rfl)) rfl rfl hl.1 (Nat.le_of_ble_eq_true rfl) dX3_init_9 ⟨hmc14, hms14⟩ (fun w2 g2 H locs hP hD hS => ?_)
  obtain ⟨a2, ea2, rfl⟩ := g2
  rw [List.append_nil] at hP hD
  rw [← ea2]
  have hP : va_P D vwCl ([(h0, .inr (3, [.null, .null, .null, .null, .int 0]))] ++ stW cI a2 iS0) H := hP
  have hD : va_D A ([(h0, .inr (3, [.null, .null, .null, .null, .int 0]))] ++ stW cI a2 iS0) := hD
  refine va_putF (D := D) (ci := 3) (v := .ref (a2 0)) (ty := (.object "LabelStation$State")) (C := RX3) (T := TX3) (N := 5) hx hb hts hinX3 tyX3 tyX3_ok nmX3 hown hK hP hD hS 0 rfl rfl 0 (by decide) q7 (fun _ h9 => h9) rfl hini rfl (by decide +kernel) rfl rfl (Nat.le_of_ble_eq_true rfl) dX3_init_12 (fun H locs hP hD hS => ?_)
  have hP : va_P D vwCl ([(h0, .inr (3, [.ref (a2 0), .null, .null, .null, .int 0]))] ++ stW cI a2 iS0) H := hP
  have hD : va_D A ([(h0, .inr (3, [.ref (a2 0), .null, .null, .null, .int 0]))] ++ stW cI a2 iS0) := hD
  refine lv_aload_n hx hb dX3_init_15 rfl (lv_at hl 0 rfl) ?_
  refine va_new (D := D) (cl := vwCl) (ci := 1) (fs := [.null, .null, .null, .null, .null, .null, .null, .null, .int 0, .int 0, .int 0, .int 0, .int 0, .int 0, .int 0, .int 0]) (C := RX1) (T := TX1) (N := 16) hx hb hts hinX1 tyX1 tyX1_ok hown q4 q5 q6 hK hP hD hS hA rfl (by intro j hj; rcases (show j = 0 ∨ j = 1 ∨ j = 2 ∨ j = 3 ∨ j = 4 ∨ j = 5 ∨ j = 6 ∨ j = 7 ∨ j = 8 ∨ j = 9 ∨ j = 10 ∨ j = 11 ∨ j = 12 ∨ j = 13 ∨ j = 14 ∨ j = 15 by omega) with rfl | rfl | rfl | rfl | rfl | rfl | rfl | rfl | rfl | rfl | rfl | rfl | rfl | rfl | rfl | rfl <;> rfl) hmc15 hms15 dX3_init_16 (fun o3 H hP hD hS => ?_)
  have hP : va_P D vwCl (([(h0, .inr (3, [.ref (a2 0), .null, .null, .null, .int 0]))] ++ stW cI a2 iS0) ++ [(o3, .inr (1, [.null, .null, .null, .null, .null, .null, .null, .null, .int 0, .int 0, .int 0, .int 0, .int 0, .int 0, .int 0, .int 0]))]) H := hP
  have hD : va_D A (([(h0, .inr (3, [.ref (a2 0), .null, .null, .null, .int 0]))] ++ stW cI a2 iS0) ++ [(o3, .inr (1, [.null, .null, .null, .null, .null, .null, .null, .null, .int 0, .int 0, .int 0, .int 0, .int 0, .int 0, .int 0, .int 0]))]) := hD
  refine lv_dup hx hb dX3_init_19 rfl ?_
  refine kcC (mc := 13) (ms := 1291) (As := []) (rest := [.ref o3, .ref h0]) E.1 (cx1_init E o3) hX (cwI 0 hts gX3_init_X1_init rfl rfl rfl q6 q16 q17 rfl (by decide +kernel) ⟨Nat.le_of_ble_eq_true rfl, Nat.le_of_ble_eq_true rfl⟩) hKs hP hD hS hA ([(h0, .inr (3, [.ref (a2 0), .null, .null, .null, .int 0]))] ++ stW cI a2 iS0) [] (wi := [(o3, .inr (1, [.null, .null, .null, .null, .null, .null, .null, .null, .int 0, .int 0, .int 0, .int 0, .int 0, .int 0, .int 0, .int 0]))]) (by first | rfl | (simp only [List.append_assoc]; rfl)) rfl rfl hl.1 (Nat.le_of_ble_eq_true rfl) dX3_init_20 ⟨hmc28, hms28⟩ (fun w2 g2 H locs hP hD hS => ?_)
  obtain ⟨a4, ea4, rfl⟩ := g2
  rw [List.append_nil] at hP hD
  rw [← ea4]
  have hP : va_P D vwCl (([(h0, .inr (3, [.ref (a2 0), .null, .null, .null, .int 0]))] ++ stW cI a2 iS0) ++ stW cI a4 iS0) H := hP
  have hD : va_D A (([(h0, .inr (3, [.ref (a2 0), .null, .null, .null, .int 0]))] ++ stW cI a2 iS0) ++ stW cI a4 iS0) := hD
  refine va_putF (D := D) (ci := 3) (v := .ref (a4 0)) (ty := (.object "LabelStation$State")) (C := RX3) (T := TX3) (N := 5) hx hb hts hinX3 tyX3 tyX3_ok nmX3 hown hK hP hD hS 0 rfl rfl 1 (by decide) q8 (fun _ h9 => h9) rfl hini rfl (by decide +kernel) rfl rfl (Nat.le_of_ble_eq_true rfl) dX3_init_23 (fun H locs hP hD hS => ?_)
  have hP : va_P D vwCl (([(h0, .inr (3, [.ref (a2 0), .ref (a4 0), .null, .null, .int 0]))] ++ stW cI a2 iS0) ++ stW cI a4 iS0) H := hP
  have hD : va_D A (([(h0, .inr (3, [.ref (a2 0), .ref (a4 0), .null, .null, .int 0]))] ++ stW cI a2 iS0) ++ stW cI a4 iS0) := hD
  refine lv_aload_n hx hb dX3_init_26 rfl (lv_at hl 0 rfl) ?_
  refine va_new (D := D) (cl := vwCl) (ci := 0) (fs := [.null, .int 0, .int 0]) (C := RX0) (T := TX0) (N := 3) hx hb hts hinX0 tyX0 tyX0_ok hown q9 q10 q11 hK hP hD hS hA rfl (by intro j hj; rcases (show j = 0 ∨ j = 1 ∨ j = 2 by omega) with rfl | rfl | rfl <;> rfl) hmc29 hms29 dX3_init_27 (fun o5 H hP hD hS => ?_)
  have hP : va_P D vwCl ((([(h0, .inr (3, [.ref (a2 0), .ref (a4 0), .null, .null, .int 0]))] ++ stW cI a2 iS0) ++ stW cI a4 iS0) ++ [(o5, .inr (0, [.null, .int 0, .int 0]))]) H := hP
  have hD : va_D A ((([(h0, .inr (3, [.ref (a2 0), .ref (a4 0), .null, .null, .int 0]))] ++ stW cI a2 iS0) ++ stW cI a4 iS0) ++ [(o5, .inr (0, [.null, .int 0, .int 0]))]) := hD
  refine lv_dup hx hb dX3_init_30 rfl ?_
  refine kcC (mc := 71) (ms := 6540) (As := []) (rest := [.ref o5, .ref h0]) E.1 (cx0_init E hAO0 o5) hX (cwI 0 hts gX3_init_X0_init rfl rfl rfl q11 q52 q53 rfl (by decide +kernel) ⟨Nat.le_of_ble_eq_true rfl, Nat.le_of_ble_eq_true rfl⟩) hKs hP hD hS hA (([(h0, .inr (3, [.ref (a2 0), .ref (a4 0), .null, .null, .int 0]))] ++ stW cI a2 iS0) ++ stW cI a4 iS0) [] (wi := [(o5, .inr (0, [.null, .int 0, .int 0]))]) (by first | rfl | (simp only [List.append_assoc]; rfl)) rfl rfl hl.1 (Nat.le_of_ble_eq_true rfl) dX3_init_31 ⟨hmc100, hms100⟩ (fun w2 g2 H locs hP hD hS => ?_)
  obtain ⟨h6_q, h6_0, h6_1, h6_2, h6_3, h6_4, rfl⟩ := g2
  rw [List.append_nil] at hP hD
  have hP : va_P D vwCl ((([(h0, .inr (3, [.ref (a2 0), .ref (a4 0), .null, .null, .int 0]))] ++ stW cI a2 iS0) ++ stW cI a4 iS0) ++ hsI cI cS o5 h6_q h6_0 h6_1 h6_2 h6_3 h6_4) H := hP
  have hD : va_D A ((([(h0, .inr (3, [.ref (a2 0), .ref (a4 0), .null, .null, .int 0]))] ++ stW cI a2 iS0) ++ stW cI a4 iS0) ++ hsI cI cS o5 h6_q h6_0 h6_1 h6_2 h6_3 h6_4) := hD
  refine va_putF (D := D) (ci := 3) (v := .ref o5) (ty := (.object "LabelStation$History")) (C := RX3) (T := TX3) (N := 5) hx hb hts hinX3 tyX3 tyX3_ok nmX3 hown hK hP hD hS 0 rfl rfl 2 (by decide) q12 (fun _ h9 => h9) rfl hini rfl (by decide +kernel) rfl rfl (Nat.le_of_ble_eq_true rfl) dX3_init_34 (fun H locs hP hD hS => ?_)
  have hP : va_P D vwCl ((([(h0, .inr (3, [.ref (a2 0), .ref (a4 0), .ref o5, .null, .int 0]))] ++ stW cI a2 iS0) ++ stW cI a4 iS0) ++ hsI cI cS o5 h6_q h6_0 h6_1 h6_2 h6_3 h6_4) H := hP
  have hD : va_D A ((([(h0, .inr (3, [.ref (a2 0), .ref (a4 0), .ref o5, .null, .int 0]))] ++ stW cI a2 iS0) ++ stW cI a4 iS0) ++ hsI cI cS o5 h6_q h6_0 h6_1 h6_2 h6_3 h6_4) := hD
  refine lv_aload_n hx hb dX3_init_37 rfl (lv_at hl 0 rfl) ?_
  refine lv_bipush (v := 80) hx hb dX3_init_38 (by decide) ?_
  refine kNewB hx hb q13 hK hP hD hS hA (N := 80) (by decide) (by decide) (Nat.le_of_ble_eq_true rfl) hmc101 hms101 dX3_init_40 (fun q7 H hP hD hS => ?_)
  have hP : va_P D vwCl (((([(h0, .inr (3, [.ref (a2 0), .ref (a4 0), .ref o5, .null, .int 0]))] ++ stW cI a2 iS0) ++ stW cI a4 iS0) ++ hsI cI cS o5 h6_q h6_0 h6_1 h6_2 h6_3 h6_4) ++ [(q7, .inl (cB, 80, .inl (fun _ => 0)))]) H := hP
  have hD : va_D A (((([(h0, .inr (3, [.ref (a2 0), .ref (a4 0), .ref o5, .null, .int 0]))] ++ stW cI a2 iS0) ++ stW cI a4 iS0) ++ hsI cI cS o5 h6_q h6_0 h6_1 h6_2 h6_3 h6_4) ++ [(q7, .inl (cB, 80, .inl (fun _ => 0)))]) := hD
  refine va_putF (D := D) (ci := 3) (v := .ref q7) (ty := (.array .byte)) (C := RX3) (T := TX3) (N := 5) hx hb hts hinX3 tyX3 tyX3_ok nmX3 hown hK hP hD hS 0 rfl rfl 3 (by decide) q14 (fun _ h9 => h9) rfl hini rfl (by decide +kernel) rfl rfl (Nat.le_of_ble_eq_true rfl) dX3_init_42 (fun H locs hP hD hS => ?_)
  have hP : va_P D vwCl (((([(h0, .inr (3, [.ref (a2 0), .ref (a4 0), .ref o5, .ref q7, .int 0]))] ++ stW cI a2 iS0) ++ stW cI a4 iS0) ++ hsI cI cS o5 h6_q h6_0 h6_1 h6_2 h6_3 h6_4) ++ [(q7, .inl (cB, 80, .inl (fun _ => 0)))]) H := hP
  have hD : va_D A (((([(h0, .inr (3, [.ref (a2 0), .ref (a4 0), .ref o5, .ref q7, .int 0]))] ++ stW cI a2 iS0) ++ stW cI a4 iS0) ++ hsI cI cS o5 h6_q h6_0 h6_1 h6_2 h6_3 h6_4) ++ [(q7, .inl (cB, 80, .inl (fun _ => 0)))]) := hD
  refine lv_aload_n hx hb dX3_init_45 rfl (lv_at hl 0 rfl) ?_
  refine lv_iconst (v := 0) hx hb dX3_init_46 (by decide) ?_
  refine va_put (D := D) (ci := 3) (v := .int 0) (ty := .int) (C := RX3) (T := TX3) (N := 5) hx hb hts hinX3 tyX3 tyX3_ok nmX3 hown hK hP hD hS 0 rfl rfl 4 (by decide) q15 (fun _ h9 => h9) rfl (by decide +kernel) rfl rfl (Nat.le_of_ble_eq_true rfl) dX3_init_47 (fun H locs hP hD hS => ?_)
  have hP : va_P D vwCl (((([(h0, .inr (3, [.ref (a2 0), .ref (a4 0), .ref o5, .ref q7, .int 0]))] ++ stW cI a2 iS0) ++ stW cI a4 iS0) ++ hsI cI cS o5 h6_q h6_0 h6_1 h6_2 h6_3 h6_4) ++ [(q7, .inl (cB, 80, .inl (fun _ => 0)))]) H := hP
  have hD : va_D A (((([(h0, .inr (3, [.ref (a2 0), .ref (a4 0), .ref o5, .ref q7, .int 0]))] ++ stW cI a2 iS0) ++ stW cI a4 iS0) ++ hsI cI cS o5 h6_q h6_0 h6_1 h6_2 h6_3 h6_4) ++ [(q7, .inl (cB, 80, .inl (fun _ => 0)))]) := hD
  refine krC (w2 := lsW cI cB cS (iaL h0 o5 h6_q q7 a2 a4 h6_0 h6_1 h6_2 h6_3 h6_4) iL0) hx hb hr hlk (lsI_P hP) (lsI_D hD) hS dX3_init_50 ⟨_, rfl, rfl⟩ hmc101 hms101

/-- the model as it begins -/
def iM0 : Md := (fun k => match k with
  | 0 => (upd (upd (upd (upd (upd (upd (upd (upd (upd (upd (upd (upd (upd (fun _ => 0) 0 5) 1 8) 2 4) 3 10) 4 5) 5 10) 6 50) 7 100) 8 200) 9 260) 10 400) 11 500) 1202 (-1))
  | _ => fun _ => 0, 0)

set_option maxHeartbeats 4000000 in
set_option maxRecDepth 100000 in
theorem cx4_init {l : Launch} {D : va_G} {cI cB cS cJ : ClassId} {K : State → Prop} (E : kE D cI cB cS cJ K) (h0 : Nat) : kC l D K yX4_init wsX4_init 1 12 4 7298 [.ref h0] [(h0, .inr (4, [.null, .null, .null, .int 0, .int 0, .null, .int 0, .long 0]))] (fun w2 => ∃ am : Nat → Nat, am 0 = h0 ∧ w2 = mdW cI am iM0) := by
  refine kC_of (own := RX4) (cc := cX4_init) (maxL := 1) (tys := kty cI cB cS cJ) (fun U h => (E.2 U h).1) (by decide) rfl rfl (Nat.le_of_ble_eq_true rfl) rfl ?_
  intro p e s m below meth c A ls hx hb hr hml hts hown hlk hKs hK hP hD hA hS hl hini
  have hl : lv_has ls 1 [(0, .ref h0)] := hl
  have hX : CallFix p m c cX4_init 1 s _ wsX4_init RX4 := ⟨hx, hb, hml, hown, hts⟩
  have hinX4 : ∀ w ∈ wsX40, w ∈ wsX4_init := fun w h => List.mem_cons_of_mem _ (List.mem_append_right _ h)
  have q1 := hts (.methodLink RX4 1 objectInit) (List.mem_of_getElem? (i := 1) rfl)
  have q2 := hts (.instanceMethod objectInit) (List.mem_of_getElem? (i := 2) rfl)
  have q3 := hts (.code objectInit ⟨#[0xb1]⟩ 1 none) (List.mem_of_getElem? (i := 3) rfl)
  have q4 := hts (.arrayClass .int) (List.mem_of_getElem? (i := 4) rfl)
  have q5 := hts (.fieldLink RX4 7 "LabelStationModel" "now" "[I") (List.mem_of_getElem? (i := 5) rfl)
  have q6 := hts (.fieldLink RX4 13 "LabelStationModel" "past" "[I") (List.mem_of_getElem? (i := 6) rfl)
  have q7 := hts (.fieldLink RX4 16 "LabelStationModel" "aside" "[I") (List.mem_of_getElem? (i := 7) rfl)
  have q8 := hts (.fieldLink RX4 19 "LabelStationModel" "text" "[I") (List.mem_of_getElem? (i := 8) rfl)
  have hmc1 : 1 ≤ 4 := by decide
  have hmc2 : 2 ≤ 4 := by decide
  have hmc3 : 3 ≤ 4 := by decide
  have hmc4 : 4 ≤ 4 := by decide
  have hms1 : 0 + 1203 ≤ 7298 := by omega
  have hms2 : 0 + 1203 + 4812 ≤ 7298 := by omega
  have hms3 : 0 + 1203 + 4812 + 1203 ≤ 7298 := by omega
  have hms4 : 0 + 1203 + 4812 + 1203 + 80 ≤ 7298 := by omega
  refine lv_aload_n hx hb dX4_init_0 rfl (lv_at hl 0 rfl) ?_
  refine W.objInit hx hb hown q1 q2 q3 rfl (by rw [hml]; exact hl.1) rfl dX4_init_1 (Nat.le_of_ble_eq_true rfl) (Nat.le_of_ble_eq_true rfl) ?_
  refine W.eq (g2 := F0 m 4 ls []) rfl ?_
  refine lv_aload_n hx hb dX4_init_4 rfl (lv_at hl 0 rfl) ?_
  refine lv_sipush (v := 1203) hx hb dX4_init_5 (by decide) ?_
  refine kNewI hx hb q4 hK hP hD hS hA (N := 1203) (by decide) (by decide) (Nat.le_of_ble_eq_true rfl) hmc1 hms1 dX4_init_8 (fun q1 H hP hD hS => ?_)
  have hP : va_P D vwCl [(h0, .inr (4, [.null, .null, .null, .int 0, .int 0, .null, .int 0, .long 0])), (q1, .inl (cI, 1203, .inl (fun _ => 0)))] H := hP
  have hD : va_D A [(h0, .inr (4, [.null, .null, .null, .int 0, .int 0, .null, .int 0, .long 0])), (q1, .inl (cI, 1203, .inl (fun _ => 0)))] := hD
  refine va_putF (D := D) (ci := 4) (v := .ref q1) (ty := (.array .int)) (C := RX4) (T := TX4) (N := 8) hx hb hts hinX4 tyX4 tyX4_ok nmX4 hown hK hP hD hS 0 rfl rfl 0 (by decide) q5 (fun _ h9 => h9) rfl hini rfl (by decide +kernel) rfl rfl (Nat.le_of_ble_eq_true rfl) dX4_init_10 (fun H locs hP hD hS => ?_)
  have hP : va_P D vwCl [(h0, .inr (4, [.ref q1, .null, .null, .int 0, .int 0, .null, .int 0, .long 0])), (q1, .inl (cI, 1203, .inl (fun _ => 0)))] H := hP
  have hD : va_D A [(h0, .inr (4, [.ref q1, .null, .null, .int 0, .int 0, .null, .int 0, .long 0])), (q1, .inl (cI, 1203, .inl (fun _ => 0)))] := hD
  refine lv_aload_n hx hb dX4_init_13 rfl (lv_at hl 0 rfl) ?_
  refine lv_sipush (v := 4812) hx hb dX4_init_14 (by decide) ?_
  refine kNewI hx hb q4 hK hP hD hS hA (N := 4812) (by decide) (by decide) (Nat.le_of_ble_eq_true rfl) hmc2 hms2 dX4_init_17 (fun q2 H hP hD hS => ?_)
  have hP : va_P D vwCl [(h0, .inr (4, [.ref q1, .null, .null, .int 0, .int 0, .null, .int 0, .long 0])), (q1, .inl (cI, 1203, .inl (fun _ => 0))), (q2, .inl (cI, 4812, .inl (fun _ => 0)))] H := hP
  have hD : va_D A [(h0, .inr (4, [.ref q1, .null, .null, .int 0, .int 0, .null, .int 0, .long 0])), (q1, .inl (cI, 1203, .inl (fun _ => 0))), (q2, .inl (cI, 4812, .inl (fun _ => 0)))] := hD
  refine va_putF (D := D) (ci := 4) (v := .ref q2) (ty := (.array .int)) (C := RX4) (T := TX4) (N := 8) hx hb hts hinX4 tyX4 tyX4_ok nmX4 hown hK hP hD hS 0 rfl rfl 1 (by decide) q6 (fun _ h9 => h9) rfl hini rfl (by decide +kernel) rfl rfl (Nat.le_of_ble_eq_true rfl) dX4_init_19 (fun H locs hP hD hS => ?_)
  have hP : va_P D vwCl [(h0, .inr (4, [.ref q1, .ref q2, .null, .int 0, .int 0, .null, .int 0, .long 0])), (q1, .inl (cI, 1203, .inl (fun _ => 0))), (q2, .inl (cI, 4812, .inl (fun _ => 0)))] H := hP
  have hD : va_D A [(h0, .inr (4, [.ref q1, .ref q2, .null, .int 0, .int 0, .null, .int 0, .long 0])), (q1, .inl (cI, 1203, .inl (fun _ => 0))), (q2, .inl (cI, 4812, .inl (fun _ => 0)))] := hD
  refine lv_aload_n hx hb dX4_init_22 rfl (lv_at hl 0 rfl) ?_
  refine lv_sipush (v := 1203) hx hb dX4_init_23 (by decide) ?_
  refine kNewI hx hb q4 hK hP hD hS hA (N := 1203) (by decide) (by decide) (Nat.le_of_ble_eq_true rfl) hmc3 hms3 dX4_init_26 (fun q3 H hP hD hS => ?_)
  have hP : va_P D vwCl [(h0, .inr (4, [.ref q1, .ref q2, .null, .int 0, .int 0, .null, .int 0, .long 0])), (q1, .inl (cI, 1203, .inl (fun _ => 0))), (q2, .inl (cI, 4812, .inl (fun _ => 0))), (q3, .inl (cI, 1203, .inl (fun _ => 0)))] H := hP
  have hD : va_D A [(h0, .inr (4, [.ref q1, .ref q2, .null, .int 0, .int 0, .null, .int 0, .long 0])), (q1, .inl (cI, 1203, .inl (fun _ => 0))), (q2, .inl (cI, 4812, .inl (fun _ => 0))), (q3, .inl (cI, 1203, .inl (fun _ => 0)))] := hD
  refine va_putF (D := D) (ci := 4) (v := .ref q3) (ty := (.array .int)) (C := RX4) (T := TX4) (N := 8) hx hb hts hinX4 tyX4 tyX4_ok nmX4 hown hK hP hD hS 0 rfl rfl 2 (by decide) q7 (fun _ h9 => h9) rfl hini rfl (by decide +kernel) rfl rfl (Nat.le_of_ble_eq_true rfl) dX4_init_28 (fun H locs hP hD hS => ?_)
  have hP : va_P D vwCl [(h0, .inr (4, [.ref q1, .ref q2, .ref q3, .int 0, .int 0, .null, .int 0, .long 0])), (q1, .inl (cI, 1203, .inl (fun _ => 0))), (q2, .inl (cI, 4812, .inl (fun _ => 0))), (q3, .inl (cI, 1203, .inl (fun _ => 0)))] H := hP
  have hD : va_D A [(h0, .inr (4, [.ref q1, .ref q2, .ref q3, .int 0, .int 0, .null, .int 0, .long 0])), (q1, .inl (cI, 1203, .inl (fun _ => 0))), (q2, .inl (cI, 4812, .inl (fun _ => 0))), (q3, .inl (cI, 1203, .inl (fun _ => 0)))] := hD
  refine lv_aload_n hx hb dX4_init_31 rfl (lv_at hl 0 rfl) ?_
  refine lv_bipush (v := 80) hx hb dX4_init_32 (by decide) ?_
  refine kNewI hx hb q4 hK hP hD hS hA (N := 80) (by decide) (by decide) (Nat.le_of_ble_eq_true rfl) hmc4 hms4 dX4_init_34 (fun q4 H hP hD hS => ?_)
  have hP : va_P D vwCl [(h0, .inr (4, [.ref q1, .ref q2, .ref q3, .int 0, .int 0, .null, .int 0, .long 0])), (q1, .inl (cI, 1203, .inl (fun _ => 0))), (q2, .inl (cI, 4812, .inl (fun _ => 0))), (q3, .inl (cI, 1203, .inl (fun _ => 0))), (q4, .inl (cI, 80, .inl (fun _ => 0)))] H := hP
  have hD : va_D A [(h0, .inr (4, [.ref q1, .ref q2, .ref q3, .int 0, .int 0, .null, .int 0, .long 0])), (q1, .inl (cI, 1203, .inl (fun _ => 0))), (q2, .inl (cI, 4812, .inl (fun _ => 0))), (q3, .inl (cI, 1203, .inl (fun _ => 0))), (q4, .inl (cI, 80, .inl (fun _ => 0)))] := hD
  refine va_putF (D := D) (ci := 4) (v := .ref q4) (ty := (.array .int)) (C := RX4) (T := TX4) (N := 8) hx hb hts hinX4 tyX4 tyX4_ok nmX4 hown hK hP hD hS 0 rfl rfl 5 (by decide) q8 (fun _ h9 => h9) rfl hini rfl (by decide +kernel) rfl rfl (Nat.le_of_ble_eq_true rfl) dX4_init_36 (fun H locs hP hD hS => ?_)
  have hP : va_P D vwCl [(h0, .inr (4, [.ref q1, .ref q2, .ref q3, .int 0, .int 0, .ref q4, .int 0, .long 0])), (q1, .inl (cI, 1203, .inl (fun _ => 0))), (q2, .inl (cI, 4812, .inl (fun _ => 0))), (q3, .inl (cI, 1203, .inl (fun _ => 0))), (q4, .inl (cI, 80, .inl (fun _ => 0)))] H := hP
  have hD : va_D A [(h0, .inr (4, [.ref q1, .ref q2, .ref q3, .int 0, .int 0, .ref q4, .int 0, .long 0])), (q1, .inl (cI, 1203, .inl (fun _ => 0))), (q2, .inl (cI, 4812, .inl (fun _ => 0))), (q3, .inl (cI, 1203, .inl (fun _ => 0))), (q4, .inl (cI, 80, .inl (fun _ => 0)))] := hD
  refine lv_aload_n hx hb dX4_init_39 rfl (lv_at hl 0 rfl) ?_
  refine va_get (D := D) (ci := 4) (v := .ref q1) (C := RX4) (T := TX4) (N := 8) hx hb hts hinX4 hown hK hP 0 rfl rfl 0 (by decide) q5 (fun _ h9 => h9) rfl dX4_init_40 ?_
  refine lv_iconst (v := 0) hx hb dX4_init_43 (by decide) ?_
  refine lv_iconst (v := 5) hx hb dX4_init_44 (by decide) ?_
  refine kAst hx hb hK hP hD hS 1 0 (k := 0) rfl rfl (by unfold vp_in; decide) (by decide) dX4_init_45 (fun H locs hP hD hS => ?_)
  have hP : va_P D vwCl [(h0, .inr (4, [.ref q1, .ref q2, .ref q3, .int 0, .int 0, .ref q4, .int 0, .long 0])), (q1, .inl (cI, 1203, .inl (upd (fun _ => 0) 0 5))), (q2, .inl (cI, 4812, .inl (fun _ => 0))), (q3, .inl (cI, 1203, .inl (fun _ => 0))), (q4, .inl (cI, 80, .inl (fun _ => 0)))] H := hP
  have hD : va_D A [(h0, .inr (4, [.ref q1, .ref q2, .ref q3, .int 0, .int 0, .ref q4, .int 0, .long 0])), (q1, .inl (cI, 1203, .inl (upd (fun _ => 0) 0 5))), (q2, .inl (cI, 4812, .inl (fun _ => 0))), (q3, .inl (cI, 1203, .inl (fun _ => 0))), (q4, .inl (cI, 80, .inl (fun _ => 0)))] := hD
  refine lv_aload_n hx hb dX4_init_46 rfl (lv_at hl 0 rfl) ?_
  refine va_get (D := D) (ci := 4) (v := .ref q1) (C := RX4) (T := TX4) (N := 8) hx hb hts hinX4 hown hK hP 0 rfl rfl 0 (by decide) q5 (fun _ h9 => h9) rfl dX4_init_47 ?_
  refine lv_iconst (v := 1) hx hb dX4_init_50 (by decide) ?_
  refine lv_bipush (v := 8) hx hb dX4_init_51 (by decide) ?_
  refine kAst hx hb hK hP hD hS 1 0 (k := 1) rfl rfl (by unfold vp_in; decide) (by decide) dX4_init_53 (fun H locs hP hD hS => ?_)
  have hP : va_P D vwCl [(h0, .inr (4, [.ref q1, .ref q2, .ref q3, .int 0, .int 0, .ref q4, .int 0, .long 0])), (q1, .inl (cI, 1203, .inl (upd (upd (fun _ => 0) 0 5) 1 8))), (q2, .inl (cI, 4812, .inl (fun _ => 0))), (q3, .inl (cI, 1203, .inl (fun _ => 0))), (q4, .inl (cI, 80, .inl (fun _ => 0)))] H := hP
  have hD : va_D A [(h0, .inr (4, [.ref q1, .ref q2, .ref q3, .int 0, .int 0, .ref q4, .int 0, .long 0])), (q1, .inl (cI, 1203, .inl (upd (upd (fun _ => 0) 0 5) 1 8))), (q2, .inl (cI, 4812, .inl (fun _ => 0))), (q3, .inl (cI, 1203, .inl (fun _ => 0))), (q4, .inl (cI, 80, .inl (fun _ => 0)))] := hD
  refine lv_aload_n hx hb dX4_init_54 rfl (lv_at hl 0 rfl) ?_
  refine va_get (D := D) (ci := 4) (v := .ref q1) (C := RX4) (T := TX4) (N := 8) hx hb hts hinX4 hown hK hP 0 rfl rfl 0 (by decide) q5 (fun _ h9 => h9) rfl dX4_init_55 ?_
  refine lv_iconst (v := 2) hx hb dX4_init_58 (by decide) ?_
  refine lv_iconst (v := 4) hx hb dX4_init_59 (by decide) ?_
  refine kAst hx hb hK hP hD hS 1 0 (k := 2) rfl rfl (by unfold vp_in; decide) (by decide) dX4_init_60 (fun H locs hP hD hS => ?_)
  have hP : va_P D vwCl [(h0, .inr (4, [.ref q1, .ref q2, .ref q3, .int 0, .int 0, .ref q4, .int 0, .long 0])), (q1, .inl (cI, 1203, .inl (upd (upd (upd (fun _ => 0) 0 5) 1 8) 2 4))), (q2, .inl (cI, 4812, .inl (fun _ => 0))), (q3, .inl (cI, 1203, .inl (fun _ => 0))), (q4, .inl (cI, 80, .inl (fun _ => 0)))] H := hP
  have hD : va_D A [(h0, .inr (4, [.ref q1, .ref q2, .ref q3, .int 0, .int 0, .ref q4, .int 0, .long 0])), (q1, .inl (cI, 1203, .inl (upd (upd (upd (fun _ => 0) 0 5) 1 8) 2 4))), (q2, .inl (cI, 4812, .inl (fun _ => 0))), (q3, .inl (cI, 1203, .inl (fun _ => 0))), (q4, .inl (cI, 80, .inl (fun _ => 0)))] := hD
  refine lv_aload_n hx hb dX4_init_61 rfl (lv_at hl 0 rfl) ?_
  refine va_get (D := D) (ci := 4) (v := .ref q1) (C := RX4) (T := TX4) (N := 8) hx hb hts hinX4 hown hK hP 0 rfl rfl 0 (by decide) q5 (fun _ h9 => h9) rfl dX4_init_62 ?_
  refine lv_iconst (v := 3) hx hb dX4_init_65 (by decide) ?_
  refine lv_bipush (v := 10) hx hb dX4_init_66 (by decide) ?_
  refine kAst hx hb hK hP hD hS 1 0 (k := 3) rfl rfl (by unfold vp_in; decide) (by decide) dX4_init_68 (fun H locs hP hD hS => ?_)
  have hP : va_P D vwCl [(h0, .inr (4, [.ref q1, .ref q2, .ref q3, .int 0, .int 0, .ref q4, .int 0, .long 0])), (q1, .inl (cI, 1203, .inl (upd (upd (upd (upd (fun _ => 0) 0 5) 1 8) 2 4) 3 10))), (q2, .inl (cI, 4812, .inl (fun _ => 0))), (q3, .inl (cI, 1203, .inl (fun _ => 0))), (q4, .inl (cI, 80, .inl (fun _ => 0)))] H := hP
  have hD : va_D A [(h0, .inr (4, [.ref q1, .ref q2, .ref q3, .int 0, .int 0, .ref q4, .int 0, .long 0])), (q1, .inl (cI, 1203, .inl (upd (upd (upd (upd (fun _ => 0) 0 5) 1 8) 2 4) 3 10))), (q2, .inl (cI, 4812, .inl (fun _ => 0))), (q3, .inl (cI, 1203, .inl (fun _ => 0))), (q4, .inl (cI, 80, .inl (fun _ => 0)))] := hD
  refine lv_aload_n hx hb dX4_init_69 rfl (lv_at hl 0 rfl) ?_
  refine va_get (D := D) (ci := 4) (v := .ref q1) (C := RX4) (T := TX4) (N := 8) hx hb hts hinX4 hown hK hP 0 rfl rfl 0 (by decide) q5 (fun _ h9 => h9) rfl dX4_init_70 ?_
  refine lv_iconst (v := 4) hx hb dX4_init_73 (by decide) ?_
  refine lv_iconst (v := 5) hx hb dX4_init_74 (by decide) ?_
  refine kAst hx hb hK hP hD hS 1 0 (k := 4) rfl rfl (by unfold vp_in; decide) (by decide) dX4_init_75 (fun H locs hP hD hS => ?_)
  have hP : va_P D vwCl [(h0, .inr (4, [.ref q1, .ref q2, .ref q3, .int 0, .int 0, .ref q4, .int 0, .long 0])), (q1, .inl (cI, 1203, .inl (upd (upd (upd (upd (upd (fun _ => 0) 0 5) 1 8) 2 4) 3 10) 4 5))), (q2, .inl (cI, 4812, .inl (fun _ => 0))), (q3, .inl (cI, 1203, .inl (fun _ => 0))), (q4, .inl (cI, 80, .inl (fun _ => 0)))] H := hP
  have hD : va_D A [(h0, .inr (4, [.ref q1, .ref q2, .ref q3, .int 0, .int 0, .ref q4, .int 0, .long 0])), (q1, .inl (cI, 1203, .inl (upd (upd (upd (upd (upd (fun _ => 0) 0 5) 1 8) 2 4) 3 10) 4 5))), (q2, .inl (cI, 4812, .inl (fun _ => 0))), (q3, .inl (cI, 1203, .inl (fun _ => 0))), (q4, .inl (cI, 80, .inl (fun _ => 0)))] := hD
  refine lv_aload_n hx hb dX4_init_76 rfl (lv_at hl 0 rfl) ?_
  refine va_get (D := D) (ci := 4) (v := .ref q1) (C := RX4) (T := TX4) (N := 8) hx hb hts hinX4 hown hK hP 0 rfl rfl 0 (by decide) q5 (fun _ h9 => h9) rfl dX4_init_77 ?_
  refine lv_iconst (v := 5) hx hb dX4_init_80 (by decide) ?_
  refine lv_bipush (v := 10) hx hb dX4_init_81 (by decide) ?_
  refine kAst hx hb hK hP hD hS 1 0 (k := 5) rfl rfl (by unfold vp_in; decide) (by decide) dX4_init_83 (fun H locs hP hD hS => ?_)
  have hP : va_P D vwCl [(h0, .inr (4, [.ref q1, .ref q2, .ref q3, .int 0, .int 0, .ref q4, .int 0, .long 0])), (q1, .inl (cI, 1203, .inl (upd (upd (upd (upd (upd (upd (fun _ => 0) 0 5) 1 8) 2 4) 3 10) 4 5) 5 10))), (q2, .inl (cI, 4812, .inl (fun _ => 0))), (q3, .inl (cI, 1203, .inl (fun _ => 0))), (q4, .inl (cI, 80, .inl (fun _ => 0)))] H := hP
  have hD : va_D A [(h0, .inr (4, [.ref q1, .ref q2, .ref q3, .int 0, .int 0, .ref q4, .int 0, .long 0])), (q1, .inl (cI, 1203, .inl (upd (upd (upd (upd (upd (upd (fun _ => 0) 0 5) 1 8) 2 4) 3 10) 4 5) 5 10))), (q2, .inl (cI, 4812, .inl (fun _ => 0))), (q3, .inl (cI, 1203, .inl (fun _ => 0))), (q4, .inl (cI, 80, .inl (fun _ => 0)))] := hD
  refine lv_aload_n hx hb dX4_init_84 rfl (lv_at hl 0 rfl) ?_
  refine va_get (D := D) (ci := 4) (v := .ref q1) (C := RX4) (T := TX4) (N := 8) hx hb hts hinX4 hown hK hP 0 rfl rfl 0 (by decide) q5 (fun _ h9 => h9) rfl dX4_init_85 ?_
  refine lv_bipush (v := 6) hx hb dX4_init_88 (by decide) ?_
  refine lv_bipush (v := 50) hx hb dX4_init_90 (by decide) ?_
  refine kAst hx hb hK hP hD hS 1 0 (k := 6) rfl rfl (by unfold vp_in; decide) (by decide) dX4_init_92 (fun H locs hP hD hS => ?_)
  have hP : va_P D vwCl [(h0, .inr (4, [.ref q1, .ref q2, .ref q3, .int 0, .int 0, .ref q4, .int 0, .long 0])), (q1, .inl (cI, 1203, .inl (upd (upd (upd (upd (upd (upd (upd (fun _ => 0) 0 5) 1 8) 2 4) 3 10) 4 5) 5 10) 6 50))), (q2, .inl (cI, 4812, .inl (fun _ => 0))), (q3, .inl (cI, 1203, .inl (fun _ => 0))), (q4, .inl (cI, 80, .inl (fun _ => 0)))] H := hP
  have hD : va_D A [(h0, .inr (4, [.ref q1, .ref q2, .ref q3, .int 0, .int 0, .ref q4, .int 0, .long 0])), (q1, .inl (cI, 1203, .inl (upd (upd (upd (upd (upd (upd (upd (fun _ => 0) 0 5) 1 8) 2 4) 3 10) 4 5) 5 10) 6 50))), (q2, .inl (cI, 4812, .inl (fun _ => 0))), (q3, .inl (cI, 1203, .inl (fun _ => 0))), (q4, .inl (cI, 80, .inl (fun _ => 0)))] := hD
  refine lv_aload_n hx hb dX4_init_93 rfl (lv_at hl 0 rfl) ?_
  refine va_get (D := D) (ci := 4) (v := .ref q1) (C := RX4) (T := TX4) (N := 8) hx hb hts hinX4 hown hK hP 0 rfl rfl 0 (by decide) q5 (fun _ h9 => h9) rfl dX4_init_94 ?_
  refine lv_bipush (v := 7) hx hb dX4_init_97 (by decide) ?_
  refine lv_bipush (v := 100) hx hb dX4_init_99 (by decide) ?_
  refine kAst hx hb hK hP hD hS 1 0 (k := 7) rfl rfl (by unfold vp_in; decide) (by decide) dX4_init_101 (fun H locs hP hD hS => ?_)
  have hP : va_P D vwCl [(h0, .inr (4, [.ref q1, .ref q2, .ref q3, .int 0, .int 0, .ref q4, .int 0, .long 0])), (q1, .inl (cI, 1203, .inl (upd (upd (upd (upd (upd (upd (upd (upd (fun _ => 0) 0 5) 1 8) 2 4) 3 10) 4 5) 5 10) 6 50) 7 100))), (q2, .inl (cI, 4812, .inl (fun _ => 0))), (q3, .inl (cI, 1203, .inl (fun _ => 0))), (q4, .inl (cI, 80, .inl (fun _ => 0)))] H := hP
  have hD : va_D A [(h0, .inr (4, [.ref q1, .ref q2, .ref q3, .int 0, .int 0, .ref q4, .int 0, .long 0])), (q1, .inl (cI, 1203, .inl (upd (upd (upd (upd (upd (upd (upd (upd (fun _ => 0) 0 5) 1 8) 2 4) 3 10) 4 5) 5 10) 6 50) 7 100))), (q2, .inl (cI, 4812, .inl (fun _ => 0))), (q3, .inl (cI, 1203, .inl (fun _ => 0))), (q4, .inl (cI, 80, .inl (fun _ => 0)))] := hD
  refine lv_aload_n hx hb dX4_init_102 rfl (lv_at hl 0 rfl) ?_
  refine va_get (D := D) (ci := 4) (v := .ref q1) (C := RX4) (T := TX4) (N := 8) hx hb hts hinX4 hown hK hP 0 rfl rfl 0 (by decide) q5 (fun _ h9 => h9) rfl dX4_init_103 ?_
  refine lv_bipush (v := 8) hx hb dX4_init_106 (by decide) ?_
  refine lv_sipush (v := 200) hx hb dX4_init_108 (by decide) ?_
  refine kAst hx hb hK hP hD hS 1 0 (k := 8) rfl rfl (by unfold vp_in; decide) (by decide) dX4_init_111 (fun H locs hP hD hS => ?_)
  have hP : va_P D vwCl [(h0, .inr (4, [.ref q1, .ref q2, .ref q3, .int 0, .int 0, .ref q4, .int 0, .long 0])), (q1, .inl (cI, 1203, .inl (upd (upd (upd (upd (upd (upd (upd (upd (upd (fun _ => 0) 0 5) 1 8) 2 4) 3 10) 4 5) 5 10) 6 50) 7 100) 8 200))), (q2, .inl (cI, 4812, .inl (fun _ => 0))), (q3, .inl (cI, 1203, .inl (fun _ => 0))), (q4, .inl (cI, 80, .inl (fun _ => 0)))] H := hP
  have hD : va_D A [(h0, .inr (4, [.ref q1, .ref q2, .ref q3, .int 0, .int 0, .ref q4, .int 0, .long 0])), (q1, .inl (cI, 1203, .inl (upd (upd (upd (upd (upd (upd (upd (upd (upd (fun _ => 0) 0 5) 1 8) 2 4) 3 10) 4 5) 5 10) 6 50) 7 100) 8 200))), (q2, .inl (cI, 4812, .inl (fun _ => 0))), (q3, .inl (cI, 1203, .inl (fun _ => 0))), (q4, .inl (cI, 80, .inl (fun _ => 0)))] := hD
  refine lv_aload_n hx hb dX4_init_112 rfl (lv_at hl 0 rfl) ?_
  refine va_get (D := D) (ci := 4) (v := .ref q1) (C := RX4) (T := TX4) (N := 8) hx hb hts hinX4 hown hK hP 0 rfl rfl 0 (by decide) q5 (fun _ h9 => h9) rfl dX4_init_113 ?_
  refine lv_bipush (v := 9) hx hb dX4_init_116 (by decide) ?_
  refine lv_sipush (v := 260) hx hb dX4_init_118 (by decide) ?_
  refine kAst hx hb hK hP hD hS 1 0 (k := 9) rfl rfl (by unfold vp_in; decide) (by decide) dX4_init_121 (fun H locs hP hD hS => ?_)
  have hP : va_P D vwCl [(h0, .inr (4, [.ref q1, .ref q2, .ref q3, .int 0, .int 0, .ref q4, .int 0, .long 0])), (q1, .inl (cI, 1203, .inl (upd (upd (upd (upd (upd (upd (upd (upd (upd (upd (fun _ => 0) 0 5) 1 8) 2 4) 3 10) 4 5) 5 10) 6 50) 7 100) 8 200) 9 260))), (q2, .inl (cI, 4812, .inl (fun _ => 0))), (q3, .inl (cI, 1203, .inl (fun _ => 0))), (q4, .inl (cI, 80, .inl (fun _ => 0)))] H := hP
  have hD : va_D A [(h0, .inr (4, [.ref q1, .ref q2, .ref q3, .int 0, .int 0, .ref q4, .int 0, .long 0])), (q1, .inl (cI, 1203, .inl (upd (upd (upd (upd (upd (upd (upd (upd (upd (upd (fun _ => 0) 0 5) 1 8) 2 4) 3 10) 4 5) 5 10) 6 50) 7 100) 8 200) 9 260))), (q2, .inl (cI, 4812, .inl (fun _ => 0))), (q3, .inl (cI, 1203, .inl (fun _ => 0))), (q4, .inl (cI, 80, .inl (fun _ => 0)))] := hD
  refine lv_aload_n hx hb dX4_init_122 rfl (lv_at hl 0 rfl) ?_
  refine va_get (D := D) (ci := 4) (v := .ref q1) (C := RX4) (T := TX4) (N := 8) hx hb hts hinX4 hown hK hP 0 rfl rfl 0 (by decide) q5 (fun _ h9 => h9) rfl dX4_init_123 ?_
  refine lv_bipush (v := 10) hx hb dX4_init_126 (by decide) ?_
  refine lv_sipush (v := 400) hx hb dX4_init_128 (by decide) ?_
  refine kAst hx hb hK hP hD hS 1 0 (k := 10) rfl rfl (by unfold vp_in; decide) (by decide) dX4_init_131 (fun H locs hP hD hS => ?_)
  have hP : va_P D vwCl [(h0, .inr (4, [.ref q1, .ref q2, .ref q3, .int 0, .int 0, .ref q4, .int 0, .long 0])), (q1, .inl (cI, 1203, .inl (upd (upd (upd (upd (upd (upd (upd (upd (upd (upd (upd (fun _ => 0) 0 5) 1 8) 2 4) 3 10) 4 5) 5 10) 6 50) 7 100) 8 200) 9 260) 10 400))), (q2, .inl (cI, 4812, .inl (fun _ => 0))), (q3, .inl (cI, 1203, .inl (fun _ => 0))), (q4, .inl (cI, 80, .inl (fun _ => 0)))] H := hP
  have hD : va_D A [(h0, .inr (4, [.ref q1, .ref q2, .ref q3, .int 0, .int 0, .ref q4, .int 0, .long 0])), (q1, .inl (cI, 1203, .inl (upd (upd (upd (upd (upd (upd (upd (upd (upd (upd (upd (fun _ => 0) 0 5) 1 8) 2 4) 3 10) 4 5) 5 10) 6 50) 7 100) 8 200) 9 260) 10 400))), (q2, .inl (cI, 4812, .inl (fun _ => 0))), (q3, .inl (cI, 1203, .inl (fun _ => 0))), (q4, .inl (cI, 80, .inl (fun _ => 0)))] := hD
  refine lv_aload_n hx hb dX4_init_132 rfl (lv_at hl 0 rfl) ?_
  refine va_get (D := D) (ci := 4) (v := .ref q1) (C := RX4) (T := TX4) (N := 8) hx hb hts hinX4 hown hK hP 0 rfl rfl 0 (by decide) q5 (fun _ h9 => h9) rfl dX4_init_133 ?_
  refine lv_bipush (v := 11) hx hb dX4_init_136 (by decide) ?_
  refine lv_sipush (v := 500) hx hb dX4_init_138 (by decide) ?_
  refine kAst hx hb hK hP hD hS 1 0 (k := 11) rfl rfl (by unfold vp_in; decide) (by decide) dX4_init_141 (fun H locs hP hD hS => ?_)
  have hP : va_P D vwCl [(h0, .inr (4, [.ref q1, .ref q2, .ref q3, .int 0, .int 0, .ref q4, .int 0, .long 0])), (q1, .inl (cI, 1203, .inl (upd (upd (upd (upd (upd (upd (upd (upd (upd (upd (upd (upd (fun _ => 0) 0 5) 1 8) 2 4) 3 10) 4 5) 5 10) 6 50) 7 100) 8 200) 9 260) 10 400) 11 500))), (q2, .inl (cI, 4812, .inl (fun _ => 0))), (q3, .inl (cI, 1203, .inl (fun _ => 0))), (q4, .inl (cI, 80, .inl (fun _ => 0)))] H := hP
  have hD : va_D A [(h0, .inr (4, [.ref q1, .ref q2, .ref q3, .int 0, .int 0, .ref q4, .int 0, .long 0])), (q1, .inl (cI, 1203, .inl (upd (upd (upd (upd (upd (upd (upd (upd (upd (upd (upd (upd (fun _ => 0) 0 5) 1 8) 2 4) 3 10) 4 5) 5 10) 6 50) 7 100) 8 200) 9 260) 10 400) 11 500))), (q2, .inl (cI, 4812, .inl (fun _ => 0))), (q3, .inl (cI, 1203, .inl (fun _ => 0))), (q4, .inl (cI, 80, .inl (fun _ => 0)))] := hD
  refine lv_aload_n hx hb dX4_init_142 rfl (lv_at hl 0 rfl) ?_
  refine va_get (D := D) (ci := 4) (v := .ref q1) (C := RX4) (T := TX4) (N := 8) hx hb hts hinX4 hown hK hP 0 rfl rfl 0 (by decide) q5 (fun _ h9 => h9) rfl dX4_init_143 ?_
  refine lv_sipush (v := 1202) hx hb dX4_init_146 (by decide) ?_
  refine lv_iconst (v := (-1)) hx hb dX4_init_149 (by decide) ?_
  refine kAst hx hb hK hP hD hS 1 0 (k := 1202) rfl rfl (by unfold vp_in; decide) (by decide) dX4_init_150 (fun H locs hP hD hS => ?_)
  have hP : va_P D vwCl [(h0, .inr (4, [.ref q1, .ref q2, .ref q3, .int 0, .int 0, .ref q4, .int 0, .long 0])), (q1, .inl (cI, 1203, .inl (upd (upd (upd (upd (upd (upd (upd (upd (upd (upd (upd (upd (upd (fun _ => 0) 0 5) 1 8) 2 4) 3 10) 4 5) 5 10) 6 50) 7 100) 8 200) 9 260) 10 400) 11 500) 1202 (-1)))), (q2, .inl (cI, 4812, .inl (fun _ => 0))), (q3, .inl (cI, 1203, .inl (fun _ => 0))), (q4, .inl (cI, 80, .inl (fun _ => 0)))] H := hP
  have hD : va_D A [(h0, .inr (4, [.ref q1, .ref q2, .ref q3, .int 0, .int 0, .ref q4, .int 0, .long 0])), (q1, .inl (cI, 1203, .inl (upd (upd (upd (upd (upd (upd (upd (upd (upd (upd (upd (upd (upd (fun _ => 0) 0 5) 1 8) 2 4) 3 10) 4 5) 5 10) 6 50) 7 100) 8 200) 9 260) 10 400) 11 500) 1202 (-1)))), (q2, .inl (cI, 4812, .inl (fun _ => 0))), (q3, .inl (cI, 1203, .inl (fun _ => 0))), (q4, .inl (cI, 80, .inl (fun _ => 0)))] := hD
  exact krC hx hb hr hlk hP hD hS dX4_init_151 ⟨fun i => ([h0, q1, q2, q3, q4] : List Nat).getD i 0, rfl, rfl⟩ hmc4 hms4

/-! the station: static methods that read the static rows (contract kG: kI that begins with kSt too) -/
def kG (l : Launch) (D : va_G) (K : State → Prop) (y : MethodName) (ws : List Cond) (fr lo : Nat) (av : List Value) (wi : va_W) (r : Int32) (wo : va_W) : Prop :=
  ∀ sz : Nat, Met l y ws (kRm fr lo) (va_Pc av (fun U => U.heap.size = sz ∧ va_P D vwCl wi U.heap ∧ K U ∧ va_D (fun _ => True) wi ∧ kSt (va_A wi sz) U U.heap)) (va_Qi (fun (r' : Int32) (_ : Unit) => r' = r) (fun _ t => va_P D vwCl wo t.heap ∧ va_D (va_A wi sz) wo) (va_A wi sz)) 0 0 (va_A wi sz)
section KG
variable {p : Program} {l : Launch} {e : Env} {R : Room} {s : State} {m : MethodId} {args : Array Value} {below : List Frame} {meth : Method} {c : Code} {H : Heap} {locs : List Loc} {cells slots : Nat} {Q : State → Prop}
variable {D : va_G} {K : State → Prop} {y : MethodName} {ws ws' : List Cond} {fr lo : Nat} {As rest st0 : List Value} {wi wo w w' : va_W} {Ts : List Cond} {own : String} {cc bytes : ByteArray} {maxL nL index n pc : Nat} {ret : Option FieldType} {ls : Array Slot} {A0 : Nat → Prop} {H0 : Heap} {tys : List (ClassId × FieldType)} {r : Int32}
theorem kG_of {av : List Value} (hKt : ∀ U, K U → va_K D vwCl tys U) (hy : plainName y.cls = true) (hyc : y.cls = own) (hw : ws = Cond.code y cc maxL ret :: ws') (hav : (lg_sl av).length ≤ maxL)
    (body : ∀ (p : Program) (e : Env) (s : State) (m : MethodId) (below : List Frame) (meth : Method) (c : Code) (A : Nat → Prop) (ls : Array Slot), p.tables.exec = Jvm.exec → c.code = cc → meth.sig.returnType = ret → c.maxLocals = maxL → (∀ w ∈ ws, w.before av.toArray s = true) → s.vm.findClass own = some m.cls → meth.locks = false → K s → va_K D vwCl tys s → va_P D vwCl wi s.heap → va_D A wi → (∀ q, s.heap.size ≤ q → A q) → va_S A s.heap s.heap [] → lv_has ls maxL (lv_args 0 av) → kSt A s s.heap →
      W p l e (kRm fr lo) s m av.toArray below meth c s.heap [] 0 0 (kQI D below r wo A av.toArray s) (F0 m 0 ls [])) : kG l D K y ws fr lo av wi r wo := by
  intro sz
  refine Met.ofW (cc := cc) (maxL := maxL) (ret := ret) hy hw ?_
  intro p e s m args below meth c s₁ B hml hv
  obtain ⟨rfl, hsz, hP, hK, hD0, hst⟩ := hv
  subst hsz
  have h1 : s.vm.findClass y.cls = some m.cls := findClass_of_methodNamed B.named
  rw [hyc] at h1
  rw [lg_entry_eq]
  exact body p e s m below meth c _ _ B.exec B.bytes B.returns hml (atoms_spec (ws := ws) B.pre) h1 B.notSynchronized hK (hKt s hK) hP hD0.self (fun q h => Or.inr h) va_S.rf (lv_entry av hav) hst
theorem kSt_atG (hSt : kSt A0 s H0) (hS : va_S A0 H0 H locs) (hF : ∀ q, va_A wi H.size q → A0 q) : kSt (va_A wi H.size) s H := (hSt.kept hS.2.1).narrow hF
/-- a call of a static method that reads the static rows -/
theorem kcsG (hKK : kK K) (hM : kG l D K y ws fr lo As wi r wo) (S : CallFix p m c cc nL s args Ts own) (cw : CallB R s args own index y bytes maxL ret ws (kRm fr lo) 0 0 n ∧ (Cond.static y).before args s = true) (hKs : K s)
    (hP : va_P D vwCl w H) (hD : va_D A0 w) (hS : va_S A0 H0 H locs) (hA : ∀ q, H0.size ≤ q → A0 q) (hSt : kSt A0 s H0) (wl wr : va_W) (hw : w = wl ++ (wi ++ wr)) (hw' : wl ++ (wo ++ wr) = w')
    (hst : st0 = As.reverse ++ rest) (hn : As.length = n) (hsize : ls.size = nL) (hrm : (rest.map fun v => v.category).sum ≤ 8) (hdg : decode cc pc = .ok (.invokestatic index, 3)) (hc : cells ≤ R.cells ∧ slots ≤ R.slots)
    (kk : ∀ (H1 : Heap) (locs1 : List Loc), va_P D vwCl w' H1 → va_D A0 w' → va_S A0 H0 H1 locs1 → W p l e R s m args below meth c H1 locs1 cells slots Q (F0 m (pc + 3) ls (.int r :: rest))) : W p l e R s m args below meth c H locs cells slots Q (F0 m pc ls st0) := by
  subst hw; subst hw'; subst hst
  have hF := kb_F hD hS hA
  refine va_calli (va_runS (As := As) (rest := rest) S (hM H.size) cw ⟨kb_preX hKK, fun U hU hW => ⟨rfl, by rw [hU], by rw [hU]; exact kb_P hP, hKK s U hW hKs, (kb_D hD).weaken (fun _ _ _ _ => trivial), by rw [hU]; exact (kSt_atG hSt hS hF).moved hW.alike⟩⟩ rfl hn hsize rfl (lv_room hrm) hdg hc) hS (fun q _ h => hF q h) hF (fun r1 u t H1 locs1 ht hvm hr1 hB hz1 hk1 hS1 => ?_)
  obtain ⟨hP1, hD1⟩ := hB
  rw [ht] at hP1
  obtain ⟨a1, a2⟩ := kb_join hP hD hk1 hF hP1 hD1
  rw [show r1 = r from hr1]
  exact kk H1 locs1 a1 a2 hS1
end KG

/-! the station: its world, its strings, what it throws, its static rows -/
abbrev kTn : List String := ["java/lang/RuntimeException", "java/lang/Exception"]
/-- the texts of the exceptions -/
def kStr (U : State) : Prop := (∃ a, vk_R RX3 36 "the places are not in order or out of range" a U) ∧ (∃ a, vk_R RX3 56 "there is an item or a record" a U) ∧ (∃ a, vk_R RX3 71 "there is no such setting" a U) ∧ (∃ a, vk_R RX3 79 "the value is out of range" a U) ∧ (∃ a, vk_R RX3 94 "there is no such value" a U) ∧ (∃ a, vk_R RX3 109 "the belt is running, or there is an alarm" a U) ∧ (∃ a, vk_R RX3 111 "the belt is not running" a U) ∧ (∃ a, vk_R RX3 113 "there is no alarm" a U) ∧ (∃ a, vk_R RX3 115 "the quality is out of range" a U) ∧ (∃ a, vk_R RX3 121 "there is no room at the beginning of the belt" a U) ∧ (∃ a, vk_R RX3 131 "there is no such item on the belt" a U) ∧ (∃ a, vk_R RX3 134 "pulses is out of range" a U) ∧ (∃ a, vk_R RX3 140 "the new position is not on the belt" a U) ∧ (∃ a, vk_R RX3 152 "ticks is out of range" a U) ∧ (∃ a, vk_R RX3 160 "there is no such status" a U) ∧ (∃ a, vk_R RX3 165 "what is out of range" a U) ∧ (∃ a, vk_R RX3 167 "there is no such record in the register" a U) ∧ (∃ a, vk_R RX3 171 "there is no such index" a U) ∧ (∃ a, vk_R RX3 174 "there is no such counter" a U) ∧ (∃ a, vk_R RX3 185 "the speed is out of range" a U) ∧ (∃ a, vk_R RX3 199 "the value is no byte of a text" a U) ∧ (∃ a, vk_R RX3 201 "the text is full" a U) ∧ (∃ a, vk_R RX3 222 "there is no saved state" a U)
/-- the words of the throws that aren't good ones -/
def kXw (U : State) : Prop := (∀ w ∈ (vx_atS RX3 38 "java/lang/IllegalArgumentException" kTn).filter (fun w => !goodWord w), va_Nw w U) ∧ (∀ w ∈ (vx_atS RX3 58 "java/lang/IllegalStateException" kTn).filter (fun w => !goodWord w), va_Nw w U) ∧ (∀ w ∈ (kn3at RX3 133).filter (fun w => !goodWord w), va_Nw w U) ∧ (∀ w ∈ (vx_atS RX3 173 "java/lang/IndexOutOfBoundsException" kTn).filter (fun w => !goodWord w), va_Nw w U)
def kEX (D : va_G) (cI cB cS cJ : ClassId) (K : State → Prop) : Prop := kE D cI cB cS cJ K ∧ ∀ U, K U → kStr U ∧ kXw U
def kXn (ec : Int32) : String := if ec = 1 then "java/lang/IllegalArgumentException" else if ec = 2 then "java/lang/IllegalStateException" else if ec = 3 then "java/util/NoSuchElementException" else "java/lang/IndexOutOfBoundsException"
theorem kXot1 : ∀ w ∈ (vx_atS RX3 38 "java/lang/IllegalArgumentException" kTn).filter (fun w => !goodWord w), w.onTables = true := by decide +kernel
theorem kXgood1 : ∀ w ∈ Cond.classLink RX3 34 "java/lang/IllegalArgumentException" :: Cond.initialized "java/lang/IllegalArgumentException" :: vx_atS RX3 38 "java/lang/IllegalArgumentException" kTn, vx_ot w = true := by decide +kernel
theorem kec1 : (1 : Int32) ≠ 0 := by decide
theorem kXe1 : "java/lang/IllegalArgumentException" = kXn 1 := by decide +kernel
theorem kXfit1 : Bundle.fit "java/lang/IllegalArgumentException" = true := by decide +kernel
theorem kXot2 : ∀ w ∈ (vx_atS RX3 58 "java/lang/IllegalStateException" kTn).filter (fun w => !goodWord w), w.onTables = true := by decide +kernel
theorem kXgood2 : ∀ w ∈ Cond.classLink RX3 54 "java/lang/IllegalStateException" :: Cond.initialized "java/lang/IllegalStateException" :: vx_atS RX3 58 "java/lang/IllegalStateException" kTn, vx_ot w = true := by decide +kernel
theorem kec2 : (2 : Int32) ≠ 0 := by decide
theorem kXe2 : "java/lang/IllegalStateException" = kXn 2 := by decide +kernel
theorem kXfit2 : Bundle.fit "java/lang/IllegalStateException" = true := by decide +kernel
theorem kXot3 : ∀ w ∈ (kn3at RX3 133).filter (fun w => !goodWord w), w.onTables = true := by decide +kernel
theorem kXgood3 : ∀ w ∈ Cond.classLink RX3 129 "java/util/NoSuchElementException" :: Cond.initialized "java/util/NoSuchElementException" :: kn3at RX3 133, vx_ot w = true := by decide +kernel
theorem kec3 : (3 : Int32) ≠ 0 := by decide
theorem kXe3 : "java/util/NoSuchElementException" = kXn 3 := by decide +kernel
theorem kXfit3 : Bundle.fit "java/util/NoSuchElementException" = true := by decide +kernel
theorem kXot4 : ∀ w ∈ (vx_atS RX3 173 "java/lang/IndexOutOfBoundsException" kTn).filter (fun w => !goodWord w), w.onTables = true := by decide +kernel
theorem kXgood4 : ∀ w ∈ Cond.classLink RX3 169 "java/lang/IndexOutOfBoundsException" :: Cond.initialized "java/lang/IndexOutOfBoundsException" :: vx_atS RX3 173 "java/lang/IndexOutOfBoundsException" kTn, vx_ot w = true := by decide +kernel
theorem kec4 : (4 : Int32) ≠ 0 := by decide
theorem kXe4 : "java/lang/IndexOutOfBoundsException" = kXn 4 := by decide +kernel
theorem kXfit4 : Bundle.fit "java/lang/IndexOutOfBoundsException" = true := by decide +kernel
theorem kXfitn : ∀ n ∈ kTn, Bundle.fit n = true := by decide +kernel
def kLeast (j : Nat) : Int32 := ([1, 1, 1, 1, 1, 0, 0] : List Int32).getD j 0
def kMost (j : Nat) : Int32 := ([10, 100, 50, 100, 20, 20, 1000] : List Int32).getD j 0
/-- what lies in the heap for good: the statics of Throwable, the two rows of limits -/
def kSt (A : Nat → Prop) (U : State) (H : Heap) : Prop := (vx_Zq Bundle.tN "UNASSIGNED_STACK" Bundle.steD A U H ∧ vx_Zq Bundle.tN "SUPPRESSED_SENTINEL" Bundle.listD A U H) ∧ ∃ t1 t2 : Nat, va_Z RX3 "LEAST_SETTING" "[I" (.ref t1) A U H ∧ va_T .int t1 7 (fun j => .int (kLeast j)) A U H ∧ va_Z RX3 "MOST_SETTING" "[I" (.ref t2) A U H ∧ va_T .int t2 7 (fun j => .int (kMost j)) A U H
theorem kSt.moved {A : Nat → Prop} {u U : State} {H : Heap} (hvm : u.vm.Alike U.vm) (h : kSt A u H) : kSt A U H := by
  obtain ⟨⟨h1, h2⟩, t1, t2, h3, h4, h5, h6⟩ := h
  exact ⟨⟨h1.moved hvm, h2.moved hvm⟩, t1, t2, h3.moved hvm, h4.moved hvm, h5.moved hvm, h6.moved hvm⟩
theorem kSt.kept {A : Nat → Prop} {U : State} {H H1 : Heap} (h : kSt A U H) (hq : ∀ a : Nat, a < H.size → ¬ A a → H1[a]? = H[a]?) : kSt A U H1 := by
  obtain ⟨⟨h1, h2⟩, t1, t2, h3, h4, h5, h6⟩ := h
  exact ⟨⟨h1.kept hq, h2.kept hq⟩, t1, t2, h3.kept hq, h4.kept hq, h5.kept hq, h6.kept hq⟩
theorem kSt.narrow {A B : Nat → Prop} {U : State} {H : Heap} (h : kSt A U H) (hAB : ∀ q, B q → A q) : kSt B U H := by
  obtain ⟨⟨h1, h2⟩, t1, t2, h3, h4, h5, h6⟩ := h
  exact ⟨⟨h1.narrow hAB, h2.narrow hAB⟩, t1, t2, h3.narrow hAB, h4.narrow hAB, h5.narrow hAB, h6.narrow hAB⟩
abbrev kRmX (fr lo : Nat) : Room := { frames := fr, cells := 1, slots := 6, locals := lo }
/-- contracts of methods that may throw (ec: 0 none, else which): the world is as it was, then -/
def kX (l : Launch) (D : va_G) (K : State → Prop) (y : MethodName) (ws : List Cond) (fr lo : Nat) (av : List Value) (wi : va_W) (ec r : Int32) (wo : va_W) : Prop :=
  ∀ sz : Nat, vx_Met l y ws (kRmX fr lo) (va_Pc av (fun U => U.heap.size = sz ∧ va_P D vwCl wi U.heap ∧ K U ∧ va_D (fun _ => True) wi ∧ kSt (va_A wi sz) U U.heap)) (va_Qi (fun (r' : Int32) (_ : Unit) => ec = 0 ∧ r' = r) (fun _ t => va_P D vwCl wo t.heap ∧ va_D (va_A wi sz) wo) (va_A wi sz)) (vx_X (fun (_ : Unit) => True) (fun X _ t => ec ≠ 0 ∧ X = kXn ec ∧ va_P D vwCl wi t.heap ∧ va_D (va_A wi sz) wi) (va_A wi sz)) 1 6 (va_A wi sz)
abbrev kQX (D : va_G) (below : List Frame) (ec r : Int32) (wo wi : va_W) (A : Nat → Prop) (a : Array Value) (s : State) : State → Prop := vx_MQ below (va_Qi (fun (r' : Int32) (_ : Unit) => ec = 0 ∧ r' = r) (fun _ t => va_P D vwCl wo t.heap ∧ va_D A wo) A) (vx_X (fun (_ : Unit) => True) (fun X _ t => ec ≠ 0 ∧ X = kXn ec ∧ va_P D vwCl wi t.heap ∧ va_D A wi) A) a s 1 6 A
section KX
variable {p : Program} {l : Launch} {e : Env} {R : Room} {s : State} {m : MethodId} {args : Array Value} {below : List Frame} {meth : Method} {c : Code} {H : Heap} {locs : List Loc} {cells slots : Nat} {Q : State → Prop}
variable {D : va_G} {K : State → Prop} {y : MethodName} {ws ws' : List Cond} {fr lo : Nat} {b : Nat} {As rest st0 : List Value} {wi wo w w' : va_W} {Ts : List Cond} {own C : String} {cc bytes : ByteArray} {maxL nL index n pc : Nat} {ret : Option FieldType} {ls : Array Slot} {A : Nat → Prop} {H0 : Heap} {tys : List (ClassId × FieldType)} {ec r : Int32}
theorem kX_of {av : List Value} (hKt : ∀ U, K U → va_K D vwCl tys U) (hy : plainName y.cls = true) (hyc : y.cls = own) (hw : ws = Cond.code y cc maxL ret :: ws') (hav : (lg_sl av).length ≤ maxL)
    (body : ∀ (p : Program) (e : Env) (s : State) (m : MethodId) (below : List Frame) (meth : Method) (c : Code) (A : Nat → Prop) (ls : Array Slot), p.tables.exec = Jvm.exec → c.code = cc → meth.sig.returnType = ret → c.maxLocals = maxL → (∀ w ∈ ws, w.before av.toArray s = true) → s.vm.findClass own = some m.cls → meth.locks = false → K s → va_K D vwCl tys s → va_P D vwCl wi s.heap → va_D A wi → (∀ q, s.heap.size ≤ q → A q) → va_S A s.heap s.heap [] → lv_has ls maxL (lv_args 0 av) → kSt A s s.heap → (∀ x ∈ c.exceptionTable.toList, False) →
      W p l e (kRmX fr lo) s m av.toArray below meth c s.heap [] 0 0 (kQX D below ec r wo wi A av.toArray s) (F0 m 0 ls [])) : kX l D K y ws fr lo av wi ec r wo := by
  intro sz
  refine vx_ofW (cc := cc) (maxL := maxL) (ret := ret) hy hw ?_
  intro p e s m args below meth c s₁ B hml htab hv
  obtain ⟨rfl, hsz, hP, hK, hD0, hst⟩ := hv
  subst hsz
  have h1 : s.vm.findClass y.cls = some m.cls := findClass_of_methodNamed B.named
  rw [hyc] at h1
  rw [lg_entry_eq]
  exact body p e s m below meth c _ _ B.exec B.bytes B.returns hml (atoms_spec (ws := ws) B.pre) h1 B.notSynchronized hK (hKt s hK) hP hD0.self (fun q h => Or.inr h) va_S.rf (lv_entry av hav) hst htab
theorem krX {v : Int32} (hx : p.tables.exec = Jvm.exec) (hb : c.code = cc) (hr : meth.sig.returnType = some .int) (hlocks : meth.locks = false) (hP : va_P D vwCl w H) (hD : va_D A w) (hS : va_S A s.heap H locs) (hdg : decode cc pc = .ok (.ireturn, 1)) (he : ec = 0) (hv : v = r) (hw : w = wo) : W p l e R s m args below meth c H locs 0 0 (kQX D below ec r wo wi A args s) (F0 m pc ls [.int v]) := by
  subst hv; subst hw
  refine W.widen (k := 1) (n := 6) (Nat.zero_le _) (Nat.zero_le _) (vx_ret ?_)
  exact W.iret hx hb hr (fun t ht hW => ⟨⟨v, (), rfl, ⟨he, rfl⟩, by rw [ht]; exact hP, hD⟩, hS.F ht⟩) hS.2.2 hdg
theorem kthrow {cls text : String} {ik is ic sa : Nat} (hx : p.tables.exec = Jvm.exec) (hb : c.code = cc) (hl : l.stackTraces = false) (hown : s.vm.findClass own = some m.cls) (hcls : Bundle.fit cls = true)
    (hk : (Cond.classLink own ik cls).before args s = true) (hini : (Cond.initialized cls).before args s = true) (hstr : vk_R own is text sa s) (hat : ∀ w ∈ vx_atS own ic cls kTn, w.before args s = true) (hgood : ∀ w ∈ Cond.classLink own ik cls :: Cond.initialized cls :: vx_atS own ic cls kTn, vx_ot w = true)
    (hSt : kSt A s s.heap) (hP : va_P D vwCl wi H) (hD : va_D A wi) (hS : va_S A s.heap H locs) (hsize : ls.size = c.maxLocals)
    (d0 : decode cc pc = .ok (.new ik, 3)) (d3 : decode cc (pc + 3) = .ok (.dup, 1)) (d4 : decode cc (pc + 4) = .ok (.ldc is, 2)) (d6 : decode cc (pc + 6) = .ok (.invokespecial ic, 3)) (d9 : decode cc (pc + 9) = .ok (.athrow, 1))
    (ht : ∀ x ∈ c.exceptionTable.toList, False) (hfr : 5 < fr) (hlo : 82 ≤ lo) (hlocks : meth.locks = false) (he : ec ≠ 0) (hE : cls = kXn ec) : W p l e (kRmX fr lo) s m args below meth c H locs 0 0 (kQX D below ec r wo wi A args s) (F0 m pc ls []) := by
  refine vx_throwS (names := kTn) (rest := []) hx hb hl hown hcls kXfitn hk hini hstr hat hgood hSt.1.1 hSt.1.2 hS hsize d0 d3 d4 d6 d9 (fun x h => (ht x h).elim) ?_ ?_ (Nat.le_refl _) (Nat.le_refl _) hlocks ?_ hS.2.2 (Nat.le_refl _) (Nat.le_refl _)
  · show 2 + 3 < fr
    omega
  · show 0 + (13 * (2 + 1) + 43) ≤ lo
    omega
  · intro t hvm hz hq
    refine ⟨(), trivial, ⟨he, hE, va_P.kept hP (fun k q hk => hq q.1 ((hP k q hk).lt)), hD⟩, Nat.le_trans hS.1 hz, fun q h1 h2 => ?_⟩
    rw [hq q (Nat.lt_of_lt_of_le h1 hS.1)]
    exact hS.2.1 q h1 h2
theorem kthrow3 {text : String} {ik is ic sa : Nat} (hx : p.tables.exec = Jvm.exec) (hb : c.code = cc) (hl : l.stackTraces = false) (hown : s.vm.findClass own = some m.cls) (_ : Bundle.fit kn3X = true)
    (hk : (Cond.classLink own ik kn3X).before args s = true) (hini : (Cond.initialized kn3X).before args s = true) (hstr : vk_R own is text sa s) (hat : ∀ w ∈ kn3at own ic, w.before args s = true) (hgood : ∀ w ∈ Cond.classLink own ik kn3X :: Cond.initialized kn3X :: kn3at own ic, vx_ot w = true)
    (hSt : kSt A s s.heap) (hP : va_P D vwCl wi H) (hD : va_D A wi) (hS : va_S A s.heap H locs) (hsize : ls.size = c.maxLocals)
    (d0 : decode cc pc = .ok (.new ik, 3)) (d3 : decode cc (pc + 3) = .ok (.dup, 1)) (d4 : decode cc (pc + 4) = .ok (.ldc is, 2)) (d6 : decode cc (pc + 6) = .ok (.invokespecial ic, 3)) (d9 : decode cc (pc + 9) = .ok (.athrow, 1))
    (ht : ∀ x ∈ c.exceptionTable.toList, False) (hfr : 5 < fr) (hlo : 82 ≤ lo) (hlocks : meth.locks = false) (he : ec ≠ 0) (hE : kn3X = kXn ec) : W p l e (kRmX fr lo) s m args below meth c H locs 0 0 (kQX D below ec r wo wi A args s) (F0 m pc ls []) := by
  refine kn3_throw (rest := []) hx hb hl hown hk hini hstr hat hgood hSt.1.1 hSt.1.2 hS hsize d0 d3 d4 d6 d9 (fun x h => (ht x h).elim) ?_ ?_ (Nat.le_refl _) (Nat.le_refl _) hlocks ?_ hS.2.2 (Nat.le_refl _) (Nat.le_refl _)
  · show 5 < fr
    exact hfr
  · show 0 + 82 ≤ lo
    omega
  · intro t hvm hz hq
    refine ⟨(), trivial, ⟨he, hE, va_P.kept hP (fun k q hk => hq q.1 ((hP k q hk).lt)), hD⟩, Nat.le_trans hS.1 hz, fun q h1 h2 => ?_⟩
    rw [hq q (Nat.lt_of_lt_of_le h1 hS.1)]
    exact hS.2.1 q h1 h2
theorem kb_preX (hKK : kK K) {av : List Value} {sz : Nat} : FrameBlind (va_Pc av (fun U => U.heap.size = sz ∧ va_P D vwCl wi U.heap ∧ K U ∧ va_D (fun _ => True) wi ∧ kSt (va_A wi sz) U U.heap)) := fun a U g mk q => by
  obtain ⟨q0, q1, qP, qK, qD, qS⟩ := q
  exact ⟨q0, q1, qP, kK_mov hKK (u := U) (U := U.calling g mk a) rfl qK, qD, kSt.moved (u := U) (U := U.calling g mk a) (Vm.Alike.refl U.vm) qS⟩
end KX
/-- the station -/
def lsO (aL : Nat → Nat → Nat) (L : Nat → St) : va_W := [(aL 7 0, .inr (3, [.ref (aL 0 0), .ref (aL 1 0), .ref (aL 7 1), .ref (aL 7 3), .int (L 7 1 2)]))]
def lsX (cB : ClassId) (aL : Nat → Nat → Nat) (L : Nat → St) : va_W := [(aL 7 3, .inl (cB, 80, .inl (L 7 0)))]
def lsW (cI cB cS : ClassId) (aL : Nat → Nat → Nat) (L : Nat → St) : va_W := lsO aL L ++ (stW cI (aL 1) (L 1) ++ (stW cI (aL 0) (L 0) ++ ((hjW cS aL (L 7 1 0) (L 7 1 1) ++ slW cI aL L) ++ lsX cB aL L)))
theorem seg_in {w a b c x y z : va_W} (h : w = a ++ (b ++ c)) (h2 : b = x ++ (y ++ z)) : w = (a ++ x) ++ (y ++ (z ++ c)) := by subst h2; rw [h]; simp only [List.append_assoc]
theorem seg_out {w a b c x y z : va_W} (h : a ++ (b ++ c) = w) (h2 : x ++ (y ++ z) = b) : (a ++ x) ++ (y ++ (z ++ c)) = w := by subst h2; rw [← h]; simp only [List.append_assoc]
section LSS
variable (cI cB cS : ClassId) (aL : Nat → Nat → Nat) (L : Nat → St)
theorem ls_st1 : lsW cI cB cS aL L = lsO aL L ++ (stW cI (aL 1) (L 1) ++ (stW cI (aL 0) (L 0) ++ ((hjW cS aL (L 7 1 0) (L 7 1 1) ++ slW cI aL L) ++ lsX cB aL L))) := rfl
theorem ls_st1' (S : St) : lsO aL L ++ (stW cI (aL 1) S ++ (stW cI (aL 0) (L 0) ++ ((hjW cS aL (L 7 1 0) (L 7 1 1) ++ slW cI aL L) ++ lsX cB aL L))) = lsW cI cB cS aL (va_up L 1 S) := rfl
theorem ls_st0 : lsW cI cB cS aL L = (lsO aL L ++ stW cI (aL 1) (L 1)) ++ (stW cI (aL 0) (L 0) ++ ((hjW cS aL (L 7 1 0) (L 7 1 1) ++ slW cI aL L) ++ lsX cB aL L)) := by rw [List.append_assoc]; rfl
theorem ls_st0' (S : St) : (lsO aL L ++ stW cI (aL 1) (L 1)) ++ (stW cI (aL 0) S ++ ((hjW cS aL (L 7 1 0) (L 7 1 1) ++ slW cI aL L) ++ lsX cB aL L)) = lsW cI cB cS aL (va_up L 0 S) := by rw [List.append_assoc]; rfl
theorem ls_hs : lsW cI cB cS aL L = (lsO aL L ++ stW cI (aL 1) (L 1)) ++ (hsW cI cS aL L ++ lsX cB aL L) := by simp only [lsW, hsW, List.append_assoc]
theorem ls_hs' (L2 : Nat → St) (h1 : L2 1 = L 1) (h2 : L2 7 0 = L 7 0) (h3 : L2 7 1 2 = L 7 1 2) : (lsO aL L ++ stW cI (aL 1) (L 1)) ++ (hsW cI cS aL L2 ++ lsX cB aL L) = lsW cI cB cS aL L2 := by simp only [lsW, hsW, lsO, lsX, h1, h2, h3, List.append_assoc]
theorem ls_hj : lsW cI cB cS aL L = (lsO aL L ++ (stW cI (aL 1) (L 1) ++ stW cI (aL 0) (L 0))) ++ (hjW cS aL (L 7 1 0) (L 7 1 1) ++ (slW cI aL L ++ lsX cB aL L)) := by simp only [lsW, List.append_assoc]
theorem ls_hj' (O : Int32 × Int32) : (lsO aL L ++ (stW cI (aL 1) (L 1) ++ stW cI (aL 0) (L 0))) ++ (hjW cS aL O.1 O.2 ++ (slW cI aL L ++ lsX cB aL L)) = lsW cI cB cS aL (hput L O) := by
  have h : lsW cI cB cS aL (hput L O) = lsO aL L ++ (stW cI (aL 1) (L 1) ++ (stW cI (aL 0) (L 0) ++ ((hjW cS aL O.1 O.2 ++ slW cI aL L) ++ lsX cB aL L))) := rfl
  rw [h]; simp only [List.append_assoc]
theorem ls_cp : lsW cI cB cS aL L = lsO aL L ++ ((stW cI (aL 1) (L 1) ++ stW cI (aL 0) (L 0)) ++ ((hjW cS aL (L 7 1 0) (L 7 1 1) ++ slW cI aL L) ++ lsX cB aL L)) := by simp only [lsW, List.append_assoc]
theorem ls_cp' (S : St) : lsO aL L ++ ((stW cI (aL 1) S ++ stW cI (aL 0) (L 0)) ++ ((hjW cS aL (L 7 1 0) (L 7 1 1) ++ slW cI aL L) ++ lsX cB aL L)) = lsW cI cB cS aL (va_up L 1 S) := by
  have h : lsW cI cB cS aL (va_up L 1 S) = lsO aL L ++ (stW cI (aL 1) S ++ (stW cI (aL 0) (L 0) ++ ((hjW cS aL (L 7 1 0) (L 7 1 1) ++ slW cI aL L) ++ lsX cB aL L))) := rfl
  rw [h]; simp only [List.append_assoc]
theorem ls_tb0 : lsW cI cB cS aL L = ((lsO aL L ++ stW cI (aL 1) (L 1)) ++ (stW cI (aL 0) (L 0)).take 4) ++ (tbW cI (aL 0 4) (aL 0 5) 4 20 80 (stT (L 0) 0) ++ ((stW cI (aL 0) (L 0)).drop 6 ++ ((hjW cS aL (L 7 1 0) (L 7 1 1) ++ slW cI aL L) ++ lsX cB aL L))) := seg_in (ls_st0 cI cB cS aL L) (st_tb0 cI (aL 0) (L 0))
theorem ls_tb0' (T : Tb) : ((lsO aL L ++ stW cI (aL 1) (L 1)) ++ (stW cI (aL 0) (L 0)).take 4) ++ (tbW cI (aL 0 4) (aL 0 5) 4 20 80 T ++ ((stW cI (aL 0) (L 0)).drop 6 ++ ((hjW cS aL (L 7 1 0) (L 7 1 1) ++ slW cI aL L) ++ lsX cB aL L))) = lsW cI cB cS aL (va_up L 0 (stP (L 0) 0 T)) := seg_out (ls_st0' cI cB cS aL L _) (st_tb0' cI (aL 0) (L 0) T)
theorem ls_tb1 : lsW cI cB cS aL L = ((lsO aL L ++ stW cI (aL 1) (L 1)) ++ (stW cI (aL 0) (L 0)).take 6) ++ (tbW cI (aL 0 6) (aL 0 7) 6 35 210 (stT (L 0) 1) ++ ((stW cI (aL 0) (L 0)).drop 8 ++ ((hjW cS aL (L 7 1 0) (L 7 1 1) ++ slW cI aL L) ++ lsX cB aL L))) := seg_in (ls_st0 cI cB cS aL L) (st_tb1 cI (aL 0) (L 0))
end LSS
/-- where the next state is saved -/
def hix (o v : Int32) : Int32 := (o + v) - (o + v) / 5 * 5
def sx0_slot (o v : Int32) : Prop := ¬ hix o v < 0 ∧ ¬ nI 5 ≤ hix o v
theorem hix_lt {o v : Int32} (h : sx0_slot o v) : (hix o v).toNatClampNeg < 5 := Nat.not_le.mp fun q => kin_of h.1 h.2 (by decide) (Or.inr q)
theorem hix_at {aL : Nat → Nat → Nat} {o v : Int32} (h : sx0_slot o v) : fx0_slotAt aL (o, v) v = some (aL (2 + (hix o v).toNatClampNeg) 0) := by
  have h1 := h.1
  have h2 := h.2
  unfold hix at h1 h2
  unfold fx0_slotAt hix
  rw [if_neg h1, if_neg h2]
def hjn (L : Nat → St) : Nat := (hix (L 7 1 0) (L 7 1 1)).toNatClampNeg
def fxh_prepare (L : Nat → St) : Nat → St := fx0_prepare (hjn L) L
def sxh_prepare (L : Nat → St) : Prop := sx0_slot (L 7 1 0) (L 7 1 1) ∧ sx1_copyFrom (L 0) (L (2 + hjn L))
def fxh_save (L : Nat → St) : Nat → St := fx0_save (hjn L) L
def sxh_save (L : Nat → St) : Prop := sx0_slot (L 7 1 0) (L 7 1 1) ∧ sx1_copyFrom (L 0) (L (2 + hjn L))
def fxh_bringBackPrepared (L : Nat → St) : Nat → St := fx0_bringBackPrepared (hjn L) L
def sxh_bringBackPrepared (L : Nat → St) : Prop := sx0_slot (L 7 1 0) (L 7 1 1) ∧ sx1_copyFrom (L (2 + hjn L)) (L 0)
def fxh_bringBackLatest (L : Nat → St) : Nat → St := fx0_bringBackPrepared (hjn (fx0_less L)) (fx0_less L)
def sxh_bringBackLatest (L : Nat → St) : Prop := ¬ L 7 1 1 ≤ 0 ∧ sx0_slot (fx0_less L 7 1 0) (fx0_less L 7 1 1) ∧ sx1_copyFrom (fx0_less L (2 + hjn (fx0_less L))) (fx0_less L 0)
theorem kup_ne (L : Nat → St) (a b : Nat) (T : St) (h : a ≠ b) : va_up L b T a = L a := by simp only [va_up, if_neg h]
theorem lsh_prepare (cI cB cS : ClassId) (aL : Nat → Nat → Nat) (L : Nat → St) (h : sx0_slot (L 7 1 0) (L 7 1 1)) : (lsO aL L ++ stW cI (aL 1) (L 1)) ++ (hsW cI cS aL (fxh_prepare L) ++ lsX cB aL L) = lsW cI cB cS aL (fxh_prepare L) := by
  have hj : hjn L < 5 := hix_lt h
  have e7 : fxh_prepare L 7 = L 7 := kup_ne L 7 _ _ (by omega)
  exact ls_hs' cI cB cS aL L _ (kup_ne L 1 _ _ (by omega)) (by rw [e7]) (by rw [e7])
theorem lsh_save (cI cB cS : ClassId) (aL : Nat → Nat → Nat) (L : Nat → St) (h : sx0_slot (L 7 1 0) (L 7 1 1)) : (lsO aL L ++ stW cI (aL 1) (L 1)) ++ (hsW cI cS aL (fxh_save L) ++ lsX cB aL L) = lsW cI cB cS aL (fxh_save L) := by
  have hj : hjn L < 5 := hix_lt h
  have e1 : fx0_prepare (hjn L) L 1 = L 1 := kup_ne L 1 _ _ (by omega)
  have e7 : fx0_prepare (hjn L) L 7 = L 7 := kup_ne L 7 _ _ (by omega)
  exact ls_hs' cI cB cS aL L _ e1 (show fx0_prepare (hjn L) L 7 0 = _ by rw [e7]) (show fx0_prepare (hjn L) L 7 1 2 = _ by rw [e7])
theorem lsh_bringBackPrepared (cI cB cS : ClassId) (aL : Nat → Nat → Nat) (L : Nat → St) : (lsO aL L ++ stW cI (aL 1) (L 1)) ++ (hsW cI cS aL (fxh_bringBackPrepared L) ++ lsX cB aL L) = lsW cI cB cS aL (fxh_bringBackPrepared L) := ls_hs' cI cB cS aL L _ rfl rfl rfl
theorem lsh_bringBackLatest (cI cB cS : ClassId) (aL : Nat → Nat → Nat) (L : Nat → St) : (lsO aL L ++ stW cI (aL 1) (L 1)) ++ (hsW cI cS aL (fxh_bringBackLatest L) ++ lsX cB aL L) = lsW cI cB cS aL (fxh_bringBackLatest L) := ls_hs' cI cB cS aL L _ rfl rfl rfl

/-! worlds of the station and of the model, small words of the walks -/
def bnd {α β : Type} (a : α) (f : α → β) : β := f a
theorem bnd_e {α β : Type} {a : α} {f : α → β} {r : β} (h : bnd a f = r) : f a = r := h
theorem bnd_p {α : Type} {a : α} {f : α → Prop} (h : bnd a f) : f a := h
def kfu : Nat := 5000
/-- an int that is a boolean -/
def kbo (x : Int32) : Prop := x = 0 ∨ x = 1
theorem kbo_n {x : Int32} (h : kbo x) : narrow .boolean (.int x) = .int x := by rcases h with rfl | rfl <;> decide
theorem kbo_f {x : Int32} (h : kbo x) : fits .boolean (.int x) = true := by rcases h with rfl | rfl <;> decide
theorem kin_of {x : Int32} {n : Nat} (h1 : ¬ x < 0) (h2 : ¬ nI n ≤ x) (hn : n < 2147483648) : vp_in x n := by
  rcases pk_ix x hn with h | h | ⟨j, hj, rfl⟩
  · exact absurd h h1
  · exact absurd h h2
  · exact vp_in_nI hj hn
theorem kin_lit {j n : Nat} (h : j < n) (hn : n < 2147483648) : vp_in (nI j) n := vp_in_nI h hn
theorem ksw_out4 {x : Int32} (h0 : ¬ x = 0) (h1 : ¬ x = 1) (h2 : ¬ x = 2) (h3 : ¬ x = 3) : x.toInt < 0 ∨ 3 < x.toInt := by
  have a0 := lv_neT (a := 0) h0 rfl
  have a1 := lv_neT (a := 1) h1 rfl
  have a2 := lv_neT (a := 2) h2 rfl
  have a3 := lv_neT (a := 3) h3 rfl
  omega
theorem ksw_out6 {x : Int32} (h0 : ¬ x = 0) (h1 : ¬ x = 1) (h2 : ¬ x = 2) (h3 : ¬ x = 3) (h4 : ¬ x = 4) (h5 : ¬ x = 5) : x.toInt < 0 ∨ 5 < x.toInt := by
  have a0 := lv_neT (a := 0) h0 rfl
  have a1 := lv_neT (a := 1) h1 rfl
  have a2 := lv_neT (a := 2) h2 rfl
  have a3 := lv_neT (a := 3) h3 rfl
  have a4 := lv_neT (a := 4) h4 rfl
  have a5 := lv_neT (a := 5) h5 rfl
  omega
theorem ksw_out7 {x : Int32} (h0 : ¬ x = 0) (h1 : ¬ x = 1) (h2 : ¬ x = 2) (h3 : ¬ x = 3) (h4 : ¬ x = 4) (h5 : ¬ x = 5) (h6 : ¬ x = 6) : x.toInt < 0 ∨ 6 < x.toInt := by
  have a0 := lv_neT (a := 0) h0 rfl
  have a1 := lv_neT (a := 1) h1 rfl
  have a2 := lv_neT (a := 2) h2 rfl
  have a3 := lv_neT (a := 3) h3 rfl
  have a4 := lv_neT (a := 4) h4 rfl
  have a5 := lv_neT (a := 5) h5 rfl
  have a6 := lv_neT (a := 6) h6 rfl
  omega
theorem kw_self (w : va_W) : w = [] ++ (w ++ []) := by simp
theorem kw_nil (w : va_W) : w = [] ++ ([] ++ w) := rfl
/-- a state of the belt: S 0 settings, 1 places, 2 counters, 3: tick, running, alarm, jammed, rejects, diverted, watched, outcome, then the rows of the five tables; 4 to 8 their cells -/
abbrev St : Type := Nat → Nat → Int32
abbrev Tb : Type := Int32 × (Nat → Int32)
def sset (S : St) (k i : Nat) (v : Int32) : St := va_up S k (upd (S k) i v)
def stT (S : St) (j : Nat) : Tb := (S 3 (8 + j), S (4 + j))
def stP (S : St) (j : Nat) (T : Tb) : St := va_up (sset S 3 (8 + j) T.1) (4 + j) T.2
abbrev kty (cI cB cS cJ : ClassId) : List (ClassId × FieldType) := [(cI, .int), (cB, .byte), (cS, .object RX1), (cJ, .long)]
def tbW (cI : ClassId) (q c : Nat) (w rm : Int32) (n : Nat) (T : Tb) : va_W := [(q, .inr (2, [.int w, .int rm, .ref c, .int T.1])), (c, .inl (cI, n, .inl T.2))]
def stW (cI : ClassId) (ad : Nat → Nat) (S : St) : va_W :=
  [(ad 0, .inr (1, [.ref (ad 1), .ref (ad 2), .ref (ad 3), .ref (ad 4), .ref (ad 6), .ref (ad 8), .ref (ad 10), .ref (ad 12), .int (S 3 0), .int (S 3 1), .int (S 3 2), .int (S 3 3), .int (S 3 4), .int (S 3 5), .int (S 3 6), .int (S 3 7)])),
   (ad 1, .inl (cI, 7, .inl (S 0))), (ad 2, .inl (cI, 5, .inl (S 1))), (ad 3, .inl (cI, 18, .inl (S 2))),
   (ad 4, .inr (2, [.int 4, .int 20, .ref (ad 5), .int (S 3 8)])), (ad 5, .inl (cI, 80, .inl (S 4))),
   (ad 6, .inr (2, [.int 6, .int 35, .ref (ad 7), .int (S 3 9)])), (ad 7, .inl (cI, 210, .inl (S 5))),
   (ad 8, .inr (2, [.int 4, .int 200, .ref (ad 9), .int (S 3 10)])), (ad 9, .inl (cI, 800, .inl (S 6))),
   (ad 10, .inr (2, [.int 1, .int 50, .ref (ad 11), .int (S 3 11)])), (ad 11, .inl (cI, 50, .inl (S 7))),
   (ad 12, .inr (2, [.int 1, .int 101, .ref (ad 13), .int (S 3 12)])), (ad 13, .inl (cI, 101, .inl (S 8)))]
theorem st_tb0 (cI : ClassId) (ad : Nat → Nat) (S : St) : stW cI ad S = (stW cI ad S).take 4 ++ (tbW cI (ad 4) (ad 5) 4 20 80 (stT S 0) ++ (stW cI ad S).drop 6) := rfl
theorem st_tb0' (cI : ClassId) (ad : Nat → Nat) (S : St) (T : Tb) : (stW cI ad S).take 4 ++ (tbW cI (ad 4) (ad 5) 4 20 80 T ++ (stW cI ad S).drop 6) = stW cI ad (stP S 0 T) := rfl
theorem st_tb1 (cI : ClassId) (ad : Nat → Nat) (S : St) : stW cI ad S = (stW cI ad S).take 6 ++ (tbW cI (ad 6) (ad 7) 6 35 210 (stT S 1) ++ (stW cI ad S).drop 8) := rfl
theorem st_tb1' (cI : ClassId) (ad : Nat → Nat) (S : St) (T : Tb) : (stW cI ad S).take 6 ++ (tbW cI (ad 6) (ad 7) 6 35 210 T ++ (stW cI ad S).drop 8) = stW cI ad (stP S 1 T) := rfl
theorem st_tb2 (cI : ClassId) (ad : Nat → Nat) (S : St) : stW cI ad S = (stW cI ad S).take 8 ++ (tbW cI (ad 8) (ad 9) 4 200 800 (stT S 2) ++ (stW cI ad S).drop 10) := rfl
theorem st_tb2' (cI : ClassId) (ad : Nat → Nat) (S : St) (T : Tb) : (stW cI ad S).take 8 ++ (tbW cI (ad 8) (ad 9) 4 200 800 T ++ (stW cI ad S).drop 10) = stW cI ad (stP S 2 T) := rfl
theorem st_tb3 (cI : ClassId) (ad : Nat → Nat) (S : St) : stW cI ad S = (stW cI ad S).take 10 ++ (tbW cI (ad 10) (ad 11) 1 50 50 (stT S 3) ++ (stW cI ad S).drop 12) := rfl
theorem st_tb3' (cI : ClassId) (ad : Nat → Nat) (S : St) (T : Tb) : (stW cI ad S).take 10 ++ (tbW cI (ad 10) (ad 11) 1 50 50 T ++ (stW cI ad S).drop 12) = stW cI ad (stP S 3 T) := rfl
theorem st_tb4 (cI : ClassId) (ad : Nat → Nat) (S : St) : stW cI ad S = (stW cI ad S).take 12 ++ (tbW cI (ad 12) (ad 13) 1 101 101 (stT S 4) ++ (stW cI ad S).drop 14) := rfl
theorem st_tb4' (cI : ClassId) (ad : Nat → Nat) (S : St) (T : Tb) : (stW cI ad S).take 12 ++ (tbW cI (ad 12) (ad 13) 1 101 101 T ++ (stW cI ad S).drop 14) = stW cI ad (stP S 4 T) := rfl
/-- the model: its object and the row now -/
def mnW (cI : ClassId) (am : Nat → Nat) (sv rf ln : Int32) (hs : Int64) (g : Nat → Int32) : va_W := [(am 0, .inr (4, [.ref (am 1), .ref (am 2), .ref (am 3), .int sv, .int rf, .ref (am 4), .int ln, .long hs])), (am 1, .inl (cI, 1203, .inl g))]
/-- the whole model: M.1 0 now, 1 past, 2 aside, 3 text, 4: saved, refusal, length; M.2 the hash -/
abbrev Md : Type := (Nat → Nat → Int32) × Int64
def mdW (cI : ClassId) (am : Nat → Nat) (M : Md) : va_W := [(am 0, .inr (4, [.ref (am 1), .ref (am 2), .ref (am 3), .int (M.1 4 0), .int (M.1 4 1), .ref (am 4), .int (M.1 4 2), .long M.2])), (am 1, .inl (cI, 1203, .inl (M.1 0))), (am 2, .inl (cI, 4812, .inl (M.1 1))), (am 3, .inl (cI, 1203, .inl (M.1 2))), (am 4, .inl (cI, 80, .inl (M.1 3)))]
theorem md_mn (cI : ClassId) (am : Nat → Nat) (M : Md) : mdW cI am M = [] ++ (mnW cI am (M.1 4 0) (M.1 4 1) (M.1 4 2) M.2 (M.1 0) ++ (mdW cI am M).drop 2) := rfl
theorem md_mn' (cI : ClassId) (am : Nat → Nat) (M : Md) (g : Nat → Int32) : [] ++ (mnW cI am (M.1 4 0) (M.1 4 1) (M.1 4 2) M.2 g ++ (mdW cI am M).drop 2) = mdW cI am (va_up M.1 0 g, M.2) := rfl
/-- the nest mates' fields that LabelStation's own code reads and writes -/
def kN (U : State) : Prop := va_Nw (.fieldLinkNest RX3 41 RX1 "items" "LLabelStation$Table;" RX3) U ∧ va_Nw (.fieldLinkNest RX3 51 RX1 "records" "LLabelStation$Table;" RX3) U ∧ va_Nw (.fieldLinkNest RX3 99 RX1 "jammed" "Z" RX3) U ∧ va_Nw (.fieldLinkNest RX3 103 RX1 "running" "Z" RX3) U ∧ va_Nw (.fieldLinkNest RX3 106 RX1 "alarm" "I" RX3) U ∧ va_Nw (.fieldLinkNest RX3 157 RX1 "tick" "I" RX3) U ∧ va_Nw (.fieldLinkNest RX3 179 RX1 "diverted" "I" RX3) U ∧ va_Nw (.fieldLinkNest RX3 196 RX1 "outcome" "I" RX3) U
/-- what a walk knows of the tables, whatever it is -/
def kE (D : va_G) (cI cB cS cJ : ClassId) (K : State → Prop) : Prop := kK K ∧ ∀ U, K U → va_K D vwCl (kty cI cB cS cJ) U ∧ kN U
section KD
variable {p : Program} {l : Launch} {e : Env} {R : Room} {s : State} {m : MethodId} {args : Array Value} {below : List Frame} {meth : Method} {c : Code} {H : Heap} {locs : List Loc} {cells slots : Nat} {Q : State → Prop}
variable {D : va_G} {K : State → Prop} {y : MethodName} {ws ws' : List Cond} {fr lo : Nat} {As rest st0 : List Value} {wi wo w w' : va_W} {Ts : List Cond} {own : String} {cc bytes : ByteArray} {maxL nL index n pc : Nat} {ret : Option FieldType} {ls : Array Slot} {A0 A : Nat → Prop} {H0 : Heap} {cl : List vw_C} {tys : List (ClassId × FieldType)} {a : Nat}
/-- the top of the stack, said otherwise -/
theorem kw_top {v v' : Value} (h : v' = v) (k : W p l e R s m args below meth c H locs cells slots Q (F0 m pc ls (v :: rest))) : W p l e R s m args below meth c H locs cells slots Q (F0 m pc ls (v' :: rest)) := h ▸ k
theorem kcsI {r : Int32} (hKK : kK K) (hM : kI l D K y ws fr lo As wi r wo) (S : CallFix p m c cc nL s args Ts own) (cw : CallB R s args own index y bytes maxL ret ws (kRm fr lo) 0 0 n ∧ (Cond.static y).before args s = true) (hKs : K s)
    (hP : va_P D vwCl w H) (hD : va_D A0 w) (hS : va_S A0 H0 H locs) (hA : ∀ q, H0.size ≤ q → A0 q) (wl wr : va_W) (hw : w = wl ++ (wi ++ wr)) (hw' : wl ++ (wo ++ wr) = w')
    (hst : st0 = As.reverse ++ rest) (hn : As.length = n) (hsize : ls.size = nL) (hrm : (rest.map fun v => v.category).sum ≤ 8) (hdg : decode cc pc = .ok (.invokestatic index, 3)) (hc : cells ≤ R.cells ∧ slots ≤ R.slots)
    (kk : ∀ (H1 : Heap) (locs1 : List Loc), va_P D vwCl w' H1 → va_D A0 w' → va_S A0 H0 H1 locs1 → W p l e R s m args below meth c H1 locs1 cells slots Q (F0 m (pc + 3) ls (.int r :: rest))) : W p l e R s m args below meth c H locs cells slots Q (F0 m pc ls st0) := by
  subst hw; subst hw'; subst hst
  have hF := kb_F hD hS hA
  refine va_calli (va_runS (As := As) (rest := rest) S (hM H.size) cw ⟨kb_pre hKK, fun U hU hW => ⟨rfl, by rw [hU], by rw [hU]; exact kb_P hP, hKK s U hW hKs, (kb_D hD).weaken (fun _ _ _ _ => trivial)⟩⟩ rfl hn hsize rfl (lv_room hrm) hdg hc) hS (fun q _ h => hF q h) hF (fun r1 u t H1 locs1 ht hvm hr1 hB hz1 hk1 hS1 => ?_)
  obtain ⟨hP1, hD1⟩ := hB
  rw [ht] at hP1
  obtain ⟨a1, a2⟩ := kb_join hP hD hk1 hF hP1 hD1
  rw [show r1 = r from hr1]
  exact kk H1 locs1 a1 a2 hS1
/-- System.arraycopy of a whole row of ints -/
theorem kcopy (hexec : p.tables.exec = Jvm.exec) (hb : c.code = cc) (hml : c.maxLocals = ls.size) (hown : s.vm.findClass own = some m.cls) (hlink : (Cond.methodLink own index arraycopyName).before args s = true) (hnat : (Cond.native arraycopyName).before args s = true) (hstat : (Cond.static arraycopyName).before args s = true) (hini : (Cond.initialized "java/lang/System").before args s = true)
    (hK : va_K D cl tys s) (hP : va_P D cl w H) (hD : va_D A w) (hS : va_S A H0 H locs) (q0 q1 : Nat) {a0 : Nat} {cI : ClassId} {N : Nat} {f g : Nat → Int32} (ha0 : w[q0]? = some (a0, .inl (cI, N, .inl f))) (ha1 : w[q1]? = some (a, .inl (cI, N, .inl g))) (ht0 : tys[0]? = some (cI, .int)) (hN : N < 2147483648)
    (hframes : 1 ≤ R.frames) (hlocals : (rest.map fun v => v.category).sum + (nativeFrameWords "java/lang/System" "arraycopy" 5 + 11) ≤ R.locals) (hdg : decode cc pc = .ok (.invokestatic index, 3))
    (kk : ∀ (H1 : Heap) (locs1 : List Loc), va_P D cl (w.set q1 (a, .inl (cI, N, .inl (va_cpy f g 0 0 N)))) H1 → va_D A (w.set q1 (a, .inl (cI, N, .inl (va_cpy f g 0 0 N)))) → va_S A H0 H1 locs1 → W p l e R s m args below meth c H1 locs1 cells slots Q (F0 m (pc + 3) ls rest)) : W p l e R s m args below meth c H locs cells slots Q (F0 m pc ls (.int (nI N) :: .int 0 :: .ref a :: .int 0 :: .ref a0 :: rest)) := by
  have h0 : (0 : Int32).toNatClampNeg = 0 := rfl
  have h1 : (nI N).toNatClampNeg = N := nI_clamp hN
  refine va_copyi hexec hb hml hown hlink hnat hstat hini hK hP hD hS q0 q1 0 0 ha0 ha1 ht0 ht0 rfl (by decide) (by decide) (nI_pos hN) (by rw [h0, h1]; omega) (by rw [h0, h1]; omega) (fun i _ => rfl) hframes hlocals hdg (fun H1 locs1 a1 a2 a3 => ?_)
  rw [h0, h1] at a1 a2
  exact kk H1 locs1 a1 a2 a3
end KD

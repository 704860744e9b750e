/-! the law's cases -/
theorem kc0 {a b ec : Int32} (ha : a ≠ 0) (hb : b ≠ 0) (hE : ec = 0 ∨ ec = a ∨ ec = b) (h : kc a b ec = 0) : ec = 0 := by
  rcases hE with h1 | h1 | h1
  · exact h1
  · unfold kc at h; rw [if_pos h1] at h; exact absurd h (by decide)
  · unfold kc at h
    by_cases q : ec = a
    · rw [if_pos q] at h; exact absurd h (by decide)
    · rw [if_neg q, if_pos h1] at h; exact absurd h (by decide)
theorem klcmp (x : Int64) : lg_cmp x x = 0 := by
  unfold lg_cmp
  rw [if_neg (fun h => absurd (Int64.lt_iff_toInt_lt.mp h) (Int.lt_irrefl _)), if_pos rfl]
def LC (p : Program) (l : Launch) (s : State) (m : MethodId) (c : Code) (b Ln : Nat) (xs : Nat → Int32) (D : va_G) (cI cB cS cJ : ClassId) (K : State → Prop) : Prop :=
  p.tables.exec = Jvm.exec ∧ c.code = cL_law ∧ c.maxLocals = 9 ∧ s.vm.findClass RL = some m.cls ∧ (∀ w ∈ wsL_law, w.before #[Value.ref b] s = true) ∧ va_X b Ln xs s s.heap ∧ b < s.heap.size ∧ kEW D cI cB cS cJ K ∧ l.stackTraces = false ∧ K s ∧ kSt (fun q : Nat => s.heap.size ≤ q) s s.heap
def lawW (cI cB cS cJ : ClassId) (ao : Nat) (aL : Nat → Nat → Nat) (am : Nat → Nat) (o : Nat → Int64) (L : Nat → St) (M : Md) : va_W := outW cJ ao o ++ (lsW cI cB cS aL L ++ mdW cI am M)
theorem law_ls (cI cB cS cJ : ClassId) (ao : Nat) (aL : Nat → Nat → Nat) (am : Nat → Nat) (o : Nat → Int64) (L : Nat → St) (M : Md) : lawW cI cB cS cJ ao aL am o L M = [] ++ ((outW cJ ao o ++ (lsW cI cB cS aL L ++ [])) ++ mdW cI am M) := by
  unfold lawW; rw [List.append_nil, List.nil_append, List.append_assoc]
theorem law_md (cI cB cS cJ : ClassId) (ao : Nat) (aL : Nat → Nat → Nat) (am : Nat → Nat) (o : Nat → Int64) (L : Nat → St) (M : Md) : lawW cI cB cS cJ ao aL am o L M = (outW cJ ao o ++ lsW cI cB cS aL L) ++ (mdW cI am M ++ []) := by
  unfold lawW; rw [List.append_nil, List.append_assoc]
abbrev lv5 (b : Nat) (aL : Nat → Nat → Nat) (am : Nat → Nat) (ao : Nat) (x4 : Int32) : List (Nat × Value) := [(0, .ref b), (1, .ref (aL 7 0)), (2, .ref (am 0)), (3, .ref ao), (4, .int x4)]
def LK (p : Program) (l : Launch) (e : Env) (s : State) (m : MethodId) (below : List Frame) (meth : Method) (c : Code) (b : Nat) (D : va_G) (cI cB cS cJ : ClassId) (aL : Nat → Nat → Nat) (am : Nat → Nat) (ao : Nat) (x4 : Int32) (B : Int) (cells slots : Nat) (Q : State → Prop) : Prop :=
  ∀ (o : Nat → Int64) (L : Nat → St) (M : Md), KL B L M → ∀ (H : Heap) (locs : List Loc), va_P D vwCl (lawW cI cB cS cJ ao aL am o L M) H → va_D (fun q : Nat => s.heap.size ≤ q) (lawW cI cB cS cJ ao aL am o L M) → va_S (fun q : Nat => s.heap.size ≤ q) s.heap H locs → ∀ ls : Array Slot, lv_has ls 9 (lv5 b aL am ao x4) → W p l e room_1 s m #[Value.ref b] below meth c H locs (cells + 1) (slots + 6) Q (F0 m 1476 ls [])

set_option maxHeartbeats 4000000 in
set_option maxRecDepth 100000 in
theorem law_setPlaces {p : Program} {l : Launch} {e : Env} {s : State} {m : MethodId} {below : List Frame} {meth : Method} {c : Code} {b Ln : Nat} {xs : Nat → Int32} {D : va_G} {cI cB cS cJ : ClassId} {K : State → Prop} {Q : State → Prop} {aL : Nat → Nat → Nat} {am : Nat → Nat} {ao : Nat} {x4 : Int32} {o : Nat → Int64} {L : Nat → St} {M : Md} {H : Heap} {locs : List Loc} {cells slots : Nat} {ls : Array Slot} {B B2 : Int} (C : LC p l s m c b Ln xs D cI cB cS cJ K) (hi1 : vp_in (x4 + 1) Ln) (hi2 : vp_in (x4 + 2) Ln) (hi3 : vp_in (x4 + 3) Ln) (hi4 : vp_in (x4 + 4) Ln) (hi5 : vp_in (x4 + 5) Ln) (hkl : KL B L M) (hB : B + 1000 ≤ B2) (hL : B2 ≤ 1000000000) (hc : cells + 1 ≤ 601024) (hs : slots + 6 ≤ 7293034) (hP : va_P D vwCl (lawW cI cB cS cJ ao aL am o L M) H) (hD : va_D (fun q : Nat => s.heap.size ≤ q) (lawW cI cB cS cJ ao aL am o L M)) (hS : va_S (fun q : Nat => s.heap.size ≤ q) s.heap H locs) (hl : lv_has ls 9 (lv5 b aL am ao x4)) (kk : LK p l e s m below meth c b D cI cB cS cJ aL am ao x4 B2 cells slots Q) : W p l e room_1 s m #[Value.ref b] below meth c H locs cells slots Q (F0 m 160 ls []) := by
  obtain ⟨hx, hb, hml, hown, hts, hXX, hbl, EW, hfl, hKs, hSt⟩ := C
  have EX := EW.1
  have E := EX.1
  have hK := (E.2 s hKs).1
  have hA : ∀ q : Nat, s.heap.size ≤ q → (fun q : Nat => s.heap.size ≤ q) q := fun _ h => h
  have hbA : ¬ (fun q : Nat => s.heap.size ≤ q) b := Nat.not_le.mpr hbl
  have hX : CallFix p m c cL_law 9 s _ wsL_law RL := ⟨hx, hb, hml, hown, hts⟩
  have hl : lv_has ls 9 [(0, .ref b), (1, .ref (aL 7 0)), (2, .ref (am 0)), (3, .ref ao), (4, .int x4)] := hl
  obtain ⟨a1, ea1⟩ : ∃ y, y = xs (x4 + 1).toNatClampNeg := ⟨_, rfl⟩
  obtain ⟨a2, ea2⟩ : ∃ y, y = xs (x4 + 2).toNatClampNeg := ⟨_, rfl⟩
  obtain ⟨a3, ea3⟩ : ∃ y, y = xs (x4 + 3).toNatClampNeg := ⟨_, rfl⟩
  obtain ⟨a4, ea4⟩ : ∃ y, y = xs (x4 + 4).toNatClampNeg := ⟨_, rfl⟩
  obtain ⟨a5, ea5⟩ : ∃ y, y = xs (x4 + 5).toNatClampNeg := ⟨_, rfl⟩
  refine lv_aload_n hx hb dL_law_160 rfl (lv_at hl 1 rfl) ?_
  refine lv_aload_n hx hb dL_law_161 rfl (lv_at hl 0 rfl) ?_
  refine lv_iload hx hb dL_law_162 (lv_at hl 4 rfl) ?_
  refine lv_iconst (v := 1) hx hb dL_law_164 (by decide) ?_
  refine lv_iadd hx hb dL_law_165 ?_
  refine va_sld hx hb hXX hbl hbA hS hi1 dL_law_166 ?_
  refine kw_top (v := .int a1) (by rw [ea1]) ?_
  refine lv_aload_n hx hb dL_law_167 rfl (lv_at hl 0 rfl) ?_
  refine lv_iload hx hb dL_law_168 (lv_at hl 4 rfl) ?_
  refine lv_iconst (v := 2) hx hb dL_law_170 (by decide) ?_
  refine lv_iadd hx hb dL_law_171 ?_
  refine va_sld hx hb hXX hbl hbA hS hi2 dL_law_172 ?_
  refine kw_top (v := .int a2) (by rw [ea2]) ?_
  refine lv_aload_n hx hb dL_law_173 rfl (lv_at hl 0 rfl) ?_
  refine lv_iload hx hb dL_law_174 (lv_at hl 4 rfl) ?_
  refine lv_iconst (v := 3) hx hb dL_law_176 (by decide) ?_
  refine lv_iadd hx hb dL_law_177 ?_
  refine va_sld hx hb hXX hbl hbA hS hi3 dL_law_178 ?_
  refine kw_top (v := .int a3) (by rw [ea3]) ?_
  refine lv_aload_n hx hb dL_law_179 rfl (lv_at hl 0 rfl) ?_
  refine lv_iload hx hb dL_law_180 (lv_at hl 4 rfl) ?_
  refine lv_iconst (v := 4) hx hb dL_law_182 (by decide) ?_
  refine lv_iadd hx hb dL_law_183 ?_
  refine va_sld hx hb hXX hbl hbA hS hi4 dL_law_184 ?_
  refine kw_top (v := .int a4) (by rw [ea4]) ?_
  refine lv_aload_n hx hb dL_law_185 rfl (lv_at hl 0 rfl) ?_
  refine lv_iload hx hb dL_law_186 (lv_at hl 4 rfl) ?_
  refine lv_iconst (v := 5) hx hb dL_law_188 (by decide) ?_
  refine lv_iadd hx hb dL_law_189 ?_
  refine va_sld hx hb hXX hbl hbA hS hi5 dL_law_190 ?_
  refine kw_top (v := .int a5) (by rw [ea5]) ?_
  refine lv_aload_n hx hb dL_law_191 rfl (lv_at hl 3 rfl) ?_
  obtain ⟨hs3, hs4, hE, hkc, hr, hKL⟩ := q_setPlaces (B' := B2) hkl (by omega) a1 a2 a3 a4 a5
  have hM := cx3_setPlaces EX hfl aL L a1 a2 a3 a4 a5 hs3
  have hm4 := cx4_setPlaces (l := l) E am M a1 a2 a3 a4 a5 hs4
  have hT := t3_setPlaces L a1 a2 a3 a4 a5
  unfold T3 at hT
  generalize (fx3_setPlaces L a1 a2 a3 a4 a5).1 = ec at hE hkc hr hM hT
  generalize (fx3_setPlaces L a1 a2 a3 a4 a5).2.1 = r at hr hM
  generalize (fx3_setPlaces L a1 a2 a3 a4 a5).2.2 = L2 at hKL hM hT
  generalize fx4_setPlaces M a1 a2 a3 a4 a5 = y at hkc hr hKL hm4
  refine kcsY (As := [.ref (aL 7 0), .int a1, .int a2, .int a3, .int a4, .int a5, .ref ao]) (rest := []) E.1 (cw_setPlaces EW aL L L2 ao o a1 a2 a3 a4 a5 hM hE hT) hX (vx_cwSW 7 hts gL_law_L_setPlaces rfl rfl rfl hdL_setPlaces ⟨Nat.le_of_ble_eq_true rfl, Nat.le_of_ble_eq_true rfl⟩) hKs hP hD hS hA hSt [] (mdW cI am M) (law_ls cI cB cS cJ ao aL am o L M) (law_ls cI cB cS cJ ao aL am (if ec = 0 then va_up o 0 r.toInt64 else o) L2 M).symm rfl rfl hl.1 (Nat.le_of_ble_eq_true rfl) dL_law_192 ⟨hc, hs⟩ (fun H locs hP hD hS => ?_)
  refine lv_istore (lv' := (5, .int (kc 1 2 ec)) :: [(0, .ref b), (1, .ref (aL 7 0)), (2, .ref (am 0)), (3, .ref ao), (4, .int x4)]) hx hb dL_law_195 hl (by decide) rfl (fun ls hl => ?_)
  refine lv_aload_n hx hb dL_law_197 rfl (lv_at hl 3 rfl) ?_
  refine lv_aload_n hx hb dL_law_198 rfl (lv_at hl 1 rfl) ?_
  refine lv_iload hx hb dL_law_199 (lv_at hl 5 rfl) ?_
  refine lv_iconst (v := 1) hx hb dL_law_201 (by decide) ?_
  refine lv_iadd hx hb dL_law_202 ?_
  refine va_sld hx hb hXX hbl hbA hS hi1 dL_law_203 ?_
  refine kw_top (v := .int a1) (by rw [ea1]) ?_
  refine lv_aload_n hx hb dL_law_204 rfl (lv_at hl 1 rfl) ?_
  refine lv_iload hx hb dL_law_205 (lv_at hl 5 rfl) ?_
  refine lv_iconst (v := 2) hx hb dL_law_207 (by decide) ?_
  refine lv_iadd hx hb dL_law_208 ?_
  refine va_sld hx hb hXX hbl hbA hS hi2 dL_law_209 ?_
  refine kw_top (v := .int a2) (by rw [ea2]) ?_
  refine lv_aload_n hx hb dL_law_210 rfl (lv_at hl 1 rfl) ?_
  refine lv_iload hx hb dL_law_211 (lv_at hl 5 rfl) ?_
  refine lv_iconst (v := 3) hx hb dL_law_213 (by decide) ?_
  refine lv_iadd hx hb dL_law_214 ?_
  refine va_sld hx hb hXX hbl hbA hS hi3 dL_law_215 ?_
  refine kw_top (v := .int a3) (by rw [ea3]) ?_
  refine lv_aload_n hx hb dL_law_216 rfl (lv_at hl 1 rfl) ?_
  refine lv_iload hx hb dL_law_217 (lv_at hl 5 rfl) ?_
  refine lv_iconst (v := 4) hx hb dL_law_219 (by decide) ?_
  refine lv_iadd hx hb dL_law_220 ?_
  refine va_sld hx hb hXX hbl hbA hS hi4 dL_law_221 ?_
  refine kw_top (v := .int a4) (by rw [ea4]) ?_
  refine lv_aload_n hx hb dL_law_222 rfl (lv_at hl 1 rfl) ?_
  refine lv_iload hx hb dL_law_223 (lv_at hl 5 rfl) ?_
  refine lv_iconst (v := 5) hx hb dL_law_225 (by decide) ?_
  refine lv_iadd hx hb dL_law_226 ?_
  refine va_sld hx hb hXX hbl hbA hS hi5 dL_law_227 ?_
  refine kw_top (v := .int a5) (by rw [ea5]) ?_
  refine kcI (ci := 4) (q0 := 0) (As := [.int a1, .int a2, .int a3, .int a4, .int a5]) (rest := []) E.1 hm4 hX (cwV 5 hts gL_law_X4_setPlaces rfl rfl rfl hdX4_setPlaces ⟨Nat.le_of_ble_eq_true rfl, Nat.le_of_ble_eq_true rfl⟩) hKs hK hP hD hS hA _ _ (law_md cI cB cS cJ ao aL am (if ec = 0 then va_up o 0 r.toInt64 else o) L2 M) (law_md cI cB cS cJ ao aL am (if ec = 0 then va_up o 0 r.toInt64 else o) L2 y.2).symm rfl rfl rfl rfl hl.1 (Nat.le_of_ble_eq_true rfl) dL_law_228 ⟨hc, hs⟩ (fun H locs hP hD hS => ?_)
  refine lv_istore (lv' := (6, .int y.1) :: [(5, .int (kc 1 2 ec)), (0, .ref b), (1, .ref (aL 7 0)), (2, .ref (am 0)), (3, .ref ao), (4, .int x4)]) hx hb dL_law_231 hl (by decide) rfl (fun ls hl => ?_)
  refine lv_aload_n hx hb dL_law_233 rfl (lv_at hl 4 rfl) ?_
  refine kcI (ci := 4) (q0 := 0) (As := []) (rest := []) E.1 (cx4_thrown (l := l) E am y.2) hX (cwV 0 hts gL_law_X4_thrown rfl rfl rfl hdX4_thrown ⟨Nat.le_of_ble_eq_true rfl, Nat.le_of_ble_eq_true rfl⟩) hKs hK hP hD hS hA _ _ (law_md cI cB cS cJ ao aL am (if ec = 0 then va_up o 0 r.toInt64 else o) L2 y.2) (law_md cI cB cS cJ ao aL am (if ec = 0 then va_up o 0 r.toInt64 else o) L2 y.2).symm rfl rfl rfl rfl hl.1 (Nat.le_of_ble_eq_true rfl) dL_law_234 ⟨hc, hs⟩ (fun H locs hP hD hS => ?_)
  refine lv_iload hx hb dL_law_237 (lv_at hl 1 rfl) ?_
  refine lv_icmp_eq (tgt := 244) hx hb dL_law_239 (by decide) (fun _ => ?_) (fun h9 => absurd (show fx4_thrown y.2 = (kc 1 2 ec) from hkc.symm) h9)
  refine lv_iload hx hb dL_law_244 (lv_at hl 1 rfl) ?_
  refine lv_if_ne (tgt := 261) hx hb dL_law_246 (by decide) (fun _ => ?_) (fun h9 => ?_)
  · refine lv_goto (tgt := 1476) hx hb dL_law_261 (by decide) ?_
    exact kk _ _ _ hKL _ _ hP hD hS _ (lv_sub hl [2, 3, 4, 5, 6] rfl)
  · have he : ec = 0 := kc0 (by decide) (by decide) hE h9
    have hr2 := hr he
    rw [if_pos he] at hP hD
    subst hr2
    refine lv_aload_n hx hb dL_law_249 rfl (lv_at hl 5 rfl) ?_
    refine lv_iconst (v := 0) hx hb dL_law_250 (by decide) ?_
    refine va_lald hx hb hK hP 0 3 rfl rfl (by unfold vp_in; decide) dL_law_251 ?_
    refine kw_top (v := .long y.1.toInt64) (by rw [show (0 : Int32).toNatClampNeg = 0 from rfl, va_up_self]) ?_
    refine lv_iload hx hb dL_law_252 (lv_at hl 0 rfl) ?_
    refine lv_i2l (v := y.1.toInt64) hx hb dL_law_254 rfl ?_
    refine W.lcmp hx hb dL_law_255 ?_
    refine lv_if_eq (tgt := 261) hx hb dL_law_256 (by decide) (fun _ => ?_) (fun h8 => absurd (klcmp _) h8)
    refine lv_goto (tgt := 1476) hx hb dL_law_261 (by decide) ?_
    exact kk _ _ _ hKL _ _ hP hD hS _ (lv_sub hl [2, 3, 4, 5, 6] rfl)

set_option maxHeartbeats 4000000 in
set_option maxRecDepth 100000 in
theorem law_set {p : Program} {l : Launch} {e : Env} {s : State} {m : MethodId} {below : List Frame} {meth : Method} {c : Code} {b Ln : Nat} {xs : Nat → Int32} {D : va_G} {cI cB cS cJ : ClassId} {K : State → Prop} {Q : State → Prop} {aL : Nat → Nat → Nat} {am : Nat → Nat} {ao : Nat} {x4 : Int32} {o : Nat → Int64} {L : Nat → St} {M : Md} {H : Heap} {locs : List Loc} {cells slots : Nat} {ls : Array Slot} {B B2 : Int} (C : LC p l s m c b Ln xs D cI cB cS cJ K) (hi1 : vp_in (x4 + 1) Ln) (hi2 : vp_in (x4 + 2) Ln) (hkl : KL B L M) (hB : B + 1000 ≤ B2) (hL : B2 ≤ 1000000000) (hc : cells + 1 ≤ 601024) (hs : slots + 6 ≤ 7293034) (hP : va_P D vwCl (lawW cI cB cS cJ ao aL am o L M) H) (hD : va_D (fun q : Nat => s.heap.size ≤ q) (lawW cI cB cS cJ ao aL am o L M)) (hS : va_S (fun q : Nat => s.heap.size ≤ q) s.heap H locs) (hl : lv_has ls 9 (lv5 b aL am ao x4)) (kk : LK p l e s m below meth c b D cI cB cS cJ aL am ao x4 B2 cells slots Q) : W p l e room_1 s m #[Value.ref b] below meth c H locs cells slots Q (F0 m 264 ls []) := by
  obtain ⟨hx, hb, hml, hown, hts, hXX, hbl, EW, hfl, hKs, hSt⟩ := C
  have EX := EW.1
  have E := EX.1
  have hK := (E.2 s hKs).1
  have hA : ∀ q : Nat, s.heap.size ≤ q → (fun q : Nat => s.heap.size ≤ q) q := fun _ h => h
  have hbA : ¬ (fun q : Nat => s.heap.size ≤ q) b := Nat.not_le.mpr hbl
  have hX : CallFix p m c cL_law 9 s _ wsL_law RL := ⟨hx, hb, hml, hown, hts⟩
  have hl : lv_has ls 9 [(0, .ref b), (1, .ref (aL 7 0)), (2, .ref (am 0)), (3, .ref ao), (4, .int x4)] := hl
  obtain ⟨a1, ea1⟩ : ∃ y, y = xs (x4 + 1).toNatClampNeg := ⟨_, rfl⟩
  obtain ⟨a2, ea2⟩ : ∃ y, y = xs (x4 + 2).toNatClampNeg := ⟨_, rfl⟩
  refine lv_aload_n hx hb dL_law_264 rfl (lv_at hl 1 rfl) ?_
  refine lv_aload_n hx hb dL_law_265 rfl (lv_at hl 0 rfl) ?_
  refine lv_iload hx hb dL_law_266 (lv_at hl 4 rfl) ?_
  refine lv_iconst (v := 1) hx hb dL_law_268 (by decide) ?_
  refine lv_iadd hx hb dL_law_269 ?_
  refine va_sld hx hb hXX hbl hbA hS hi1 dL_law_270 ?_
  refine kw_top (v := .int a1) (by rw [ea1]) ?_
  refine lv_aload_n hx hb dL_law_271 rfl (lv_at hl 0 rfl) ?_
  refine lv_iload hx hb dL_law_272 (lv_at hl 4 rfl) ?_
  refine lv_iconst (v := 2) hx hb dL_law_274 (by decide) ?_
  refine lv_iadd hx hb dL_law_275 ?_
  refine va_sld hx hb hXX hbl hbA hS hi2 dL_law_276 ?_
  refine kw_top (v := .int a2) (by rw [ea2]) ?_
  refine lv_aload_n hx hb dL_law_277 rfl (lv_at hl 3 rfl) ?_
  obtain ⟨hs3, hs4, hE, hkc, hr, hKL⟩ := q_set (B' := B2) hkl (by omega) a1 a2
  have hM := cx3_set EX hfl aL L a1 a2 hs3
  have hm4 := cx4_set (l := l) E am M a1 a2 hs4
  have hT := t3_set L a1 a2
  unfold T3 at hT
  generalize (fx3_set L a1 a2).1 = ec at hE hkc hr hM hT
  generalize (fx3_set L a1 a2).2.1 = r at hr hM
  generalize (fx3_set L a1 a2).2.2 = L2 at hKL hM hT
  generalize fx4_set M a1 a2 = y at hkc hr hKL hm4
  refine kcsY (As := [.ref (aL 7 0), .int a1, .int a2, .ref ao]) (rest := []) E.1 (cw_set EW aL L L2 ao o a1 a2 hM hE hT) hX (vx_cwSW 4 hts gL_law_L_set rfl rfl rfl hdL_set ⟨Nat.le_of_ble_eq_true rfl, Nat.le_of_ble_eq_true rfl⟩) hKs hP hD hS hA hSt [] (mdW cI am M) (law_ls cI cB cS cJ ao aL am o L M) (law_ls cI cB cS cJ ao aL am (if ec = 0 then va_up o 0 r.toInt64 else o) L2 M).symm rfl rfl hl.1 (Nat.le_of_ble_eq_true rfl) dL_law_278 ⟨hc, hs⟩ (fun H locs hP hD hS => ?_)
  refine lv_istore (lv' := (5, .int (kc 1 1 ec)) :: [(0, .ref b), (1, .ref (aL 7 0)), (2, .ref (am 0)), (3, .ref ao), (4, .int x4)]) hx hb dL_law_281 hl (by decide) rfl (fun ls hl => ?_)
  refine lv_aload_n hx hb dL_law_283 rfl (lv_at hl 3 rfl) ?_
  refine lv_aload_n hx hb dL_law_284 rfl (lv_at hl 1 rfl) ?_
  refine lv_iload hx hb dL_law_285 (lv_at hl 5 rfl) ?_
  refine lv_iconst (v := 1) hx hb dL_law_287 (by decide) ?_
  refine lv_iadd hx hb dL_law_288 ?_
  refine va_sld hx hb hXX hbl hbA hS hi1 dL_law_289 ?_
  refine kw_top (v := .int a1) (by rw [ea1]) ?_
  refine lv_aload_n hx hb dL_law_290 rfl (lv_at hl 1 rfl) ?_
  refine lv_iload hx hb dL_law_291 (lv_at hl 5 rfl) ?_
  refine lv_iconst (v := 2) hx hb dL_law_293 (by decide) ?_
  refine lv_iadd hx hb dL_law_294 ?_
  refine va_sld hx hb hXX hbl hbA hS hi2 dL_law_295 ?_
  refine kw_top (v := .int a2) (by rw [ea2]) ?_
  refine kcI (ci := 4) (q0 := 0) (As := [.int a1, .int a2]) (rest := []) E.1 hm4 hX (cwV 2 hts gL_law_X4_set rfl rfl rfl hdX4_set ⟨Nat.le_of_ble_eq_true rfl, Nat.le_of_ble_eq_true rfl⟩) hKs hK hP hD hS hA _ _ (law_md cI cB cS cJ ao aL am (if ec = 0 then va_up o 0 r.toInt64 else o) L2 M) (law_md cI cB cS cJ ao aL am (if ec = 0 then va_up o 0 r.toInt64 else o) L2 y.2).symm rfl rfl rfl rfl hl.1 (Nat.le_of_ble_eq_true rfl) dL_law_296 ⟨hc, hs⟩ (fun H locs hP hD hS => ?_)
  refine lv_istore (lv' := (6, .int y.1) :: [(5, .int (kc 1 1 ec)), (0, .ref b), (1, .ref (aL 7 0)), (2, .ref (am 0)), (3, .ref ao), (4, .int x4)]) hx hb dL_law_299 hl (by decide) rfl (fun ls hl => ?_)
  refine lv_aload_n hx hb dL_law_301 rfl (lv_at hl 4 rfl) ?_
  refine kcI (ci := 4) (q0 := 0) (As := []) (rest := []) E.1 (cx4_thrown (l := l) E am y.2) hX (cwV 0 hts gL_law_X4_thrown rfl rfl rfl hdX4_thrown ⟨Nat.le_of_ble_eq_true rfl, Nat.le_of_ble_eq_true rfl⟩) hKs hK hP hD hS hA _ _ (law_md cI cB cS cJ ao aL am (if ec = 0 then va_up o 0 r.toInt64 else o) L2 y.2) (law_md cI cB cS cJ ao aL am (if ec = 0 then va_up o 0 r.toInt64 else o) L2 y.2).symm rfl rfl rfl rfl hl.1 (Nat.le_of_ble_eq_true rfl) dL_law_302 ⟨hc, hs⟩ (fun H locs hP hD hS => ?_)
  refine lv_iload hx hb dL_law_305 (lv_at hl 1 rfl) ?_
  refine lv_icmp_eq (tgt := 312) hx hb dL_law_307 (by decide) (fun _ => ?_) (fun h9 => absurd (show fx4_thrown y.2 = (kc 1 1 ec) from hkc.symm) h9)
  refine lv_iload hx hb dL_law_312 (lv_at hl 1 rfl) ?_
  refine lv_if_ne (tgt := 329) hx hb dL_law_314 (by decide) (fun _ => ?_) (fun h9 => ?_)
  · refine lv_goto (tgt := 1476) hx hb dL_law_329 (by decide) ?_
    exact kk _ _ _ hKL _ _ hP hD hS _ (lv_sub hl [2, 3, 4, 5, 6] rfl)
  · have he : ec = 0 := kc0 (by decide) (by decide) hE h9
    have hr2 := hr he
    rw [if_pos he] at hP hD
    subst hr2
    refine lv_aload_n hx hb dL_law_317 rfl (lv_at hl 5 rfl) ?_
    refine lv_iconst (v := 0) hx hb dL_law_318 (by decide) ?_
    refine va_lald hx hb hK hP 0 3 rfl rfl (by unfold vp_in; decide) dL_law_319 ?_
    refine kw_top (v := .long y.1.toInt64) (by rw [show (0 : Int32).toNatClampNeg = 0 from rfl, va_up_self]) ?_
    refine lv_iload hx hb dL_law_320 (lv_at hl 0 rfl) ?_
    refine lv_i2l (v := y.1.toInt64) hx hb dL_law_322 rfl ?_
    refine W.lcmp hx hb dL_law_323 ?_
    refine lv_if_eq (tgt := 329) hx hb dL_law_324 (by decide) (fun _ => ?_) (fun h8 => absurd (klcmp _) h8)
    refine lv_goto (tgt := 1476) hx hb dL_law_329 (by decide) ?_
    exact kk _ _ _ hKL _ _ hP hD hS _ (lv_sub hl [2, 3, 4, 5, 6] rfl)

set_option maxHeartbeats 4000000 in
set_option maxRecDepth 100000 in
theorem law_value {p : Program} {l : Launch} {e : Env} {s : State} {m : MethodId} {below : List Frame} {meth : Method} {c : Code} {b Ln : Nat} {xs : Nat → Int32} {D : va_G} {cI cB cS cJ : ClassId} {K : State → Prop} {Q : State → Prop} {aL : Nat → Nat → Nat} {am : Nat → Nat} {ao : Nat} {x4 : Int32} {o : Nat → Int64} {L : Nat → St} {M : Md} {H : Heap} {locs : List Loc} {cells slots : Nat} {ls : Array Slot} {B B2 : Int} (C : LC p l s m c b Ln xs D cI cB cS cJ K) (hi1 : vp_in (x4 + 1) Ln) (hkl : KL B L M) (hB : B + 1000 ≤ B2) (hL : B2 ≤ 1000000000) (hc : cells + 1 ≤ 601024) (hs : slots + 6 ≤ 7293034) (hP : va_P D vwCl (lawW cI cB cS cJ ao aL am o L M) H) (hD : va_D (fun q : Nat => s.heap.size ≤ q) (lawW cI cB cS cJ ao aL am o L M)) (hS : va_S (fun q : Nat => s.heap.size ≤ q) s.heap H locs) (hl : lv_has ls 9 (lv5 b aL am ao x4)) (kk : LK p l e s m below meth c b D cI cB cS cJ aL am ao x4 B2 cells slots Q) : W p l e room_1 s m #[Value.ref b] below meth c H locs cells slots Q (F0 m 332 ls []) := by
  obtain ⟨hx, hb, hml, hown, hts, hXX, hbl, EW, hfl, hKs, hSt⟩ := C
  have EX := EW.1
  have E := EX.1
  have hK := (E.2 s hKs).1
  have hA : ∀ q : Nat, s.heap.size ≤ q → (fun q : Nat => s.heap.size ≤ q) q := fun _ h => h
  have hbA : ¬ (fun q : Nat => s.heap.size ≤ q) b := Nat.not_le.mpr hbl
  have hX : CallFix p m c cL_law 9 s _ wsL_law RL := ⟨hx, hb, hml, hown, hts⟩
  have hl : lv_has ls 9 [(0, .ref b), (1, .ref (aL 7 0)), (2, .ref (am 0)), (3, .ref ao), (4, .int x4)] := hl
  obtain ⟨a1, ea1⟩ : ∃ y, y = xs (x4 + 1).toNatClampNeg := ⟨_, rfl⟩
  refine lv_aload_n hx hb dL_law_332 rfl (lv_at hl 1 rfl) ?_
  refine lv_aload_n hx hb dL_law_333 rfl (lv_at hl 0 rfl) ?_
  refine lv_iload hx hb dL_law_334 (lv_at hl 4 rfl) ?_
  refine lv_iconst (v := 1) hx hb dL_law_336 (by decide) ?_
  refine lv_iadd hx hb dL_law_337 ?_
  refine va_sld hx hb hXX hbl hbA hS hi1 dL_law_338 ?_
  refine kw_top (v := .int a1) (by rw [ea1]) ?_
  refine lv_aload_n hx hb dL_law_339 rfl (lv_at hl 3 rfl) ?_
  obtain ⟨hs4, hE, hkc, hr, hKL⟩ := q_value (B' := B2) hkl (by omega) a1
  have hM := cx3_value EX hfl aL L a1
  have hm4 := cx4_value (l := l) E am M a1 hs4
  have hT : (fx3_value L a1).1 ≠ 0 → L = L := fun _ => rfl
  generalize (fx3_value L a1).1 = ec at hE hkc hr hM hT
  generalize (fx3_value L a1).2 = r at hr hM
  generalize fx4_value M a1 = y at hkc hr hKL hm4
  refine kcsY (As := [.ref (aL 7 0), .int a1, .ref ao]) (rest := []) E.1 (cw_value EW aL L L ao o a1 hM hE hT) hX (vx_cwSW 3 hts gL_law_L_value rfl rfl rfl hdL_value ⟨Nat.le_of_ble_eq_true rfl, Nat.le_of_ble_eq_true rfl⟩) hKs hP hD hS hA hSt [] (mdW cI am M) (law_ls cI cB cS cJ ao aL am o L M) (law_ls cI cB cS cJ ao aL am (if ec = 0 then va_up o 0 r.toInt64 else o) L M).symm rfl rfl hl.1 (Nat.le_of_ble_eq_true rfl) dL_law_340 ⟨hc, hs⟩ (fun H locs hP hD hS => ?_)
  refine lv_istore (lv' := (5, .int (kc 1 1 ec)) :: [(0, .ref b), (1, .ref (aL 7 0)), (2, .ref (am 0)), (3, .ref ao), (4, .int x4)]) hx hb dL_law_343 hl (by decide) rfl (fun ls hl => ?_)
  refine lv_aload_n hx hb dL_law_345 rfl (lv_at hl 3 rfl) ?_
  refine lv_aload_n hx hb dL_law_346 rfl (lv_at hl 1 rfl) ?_
  refine lv_iload hx hb dL_law_347 (lv_at hl 5 rfl) ?_
  refine lv_iconst (v := 1) hx hb dL_law_349 (by decide) ?_
  refine lv_iadd hx hb dL_law_350 ?_
  refine va_sld hx hb hXX hbl hbA hS hi1 dL_law_351 ?_
  refine kw_top (v := .int a1) (by rw [ea1]) ?_
  refine kcI (ci := 4) (q0 := 0) (As := [.int a1]) (rest := []) E.1 hm4 hX (cwV 1 hts gL_law_X4_value rfl rfl rfl hdX4_value ⟨Nat.le_of_ble_eq_true rfl, Nat.le_of_ble_eq_true rfl⟩) hKs hK hP hD hS hA _ _ (law_md cI cB cS cJ ao aL am (if ec = 0 then va_up o 0 r.toInt64 else o) L M) (law_md cI cB cS cJ ao aL am (if ec = 0 then va_up o 0 r.toInt64 else o) L y.2).symm rfl rfl rfl rfl hl.1 (Nat.le_of_ble_eq_true rfl) dL_law_352 ⟨hc, hs⟩ (fun H locs hP hD hS => ?_)
  refine lv_istore (lv' := (6, .int y.1) :: [(5, .int (kc 1 1 ec)), (0, .ref b), (1, .ref (aL 7 0)), (2, .ref (am 0)), (3, .ref ao), (4, .int x4)]) hx hb dL_law_355 hl (by decide) rfl (fun ls hl => ?_)
  refine lv_aload_n hx hb dL_law_357 rfl (lv_at hl 4 rfl) ?_
  refine kcI (ci := 4) (q0 := 0) (As := []) (rest := []) E.1 (cx4_thrown (l := l) E am y.2) hX (cwV 0 hts gL_law_X4_thrown rfl rfl rfl hdX4_thrown ⟨Nat.le_of_ble_eq_true rfl, Nat.le_of_ble_eq_true rfl⟩) hKs hK hP hD hS hA _ _ (law_md cI cB cS cJ ao aL am (if ec = 0 then va_up o 0 r.toInt64 else o) L y.2) (law_md cI cB cS cJ ao aL am (if ec = 0 then va_up o 0 r.toInt64 else o) L y.2).symm rfl rfl rfl rfl hl.1 (Nat.le_of_ble_eq_true rfl) dL_law_358 ⟨hc, hs⟩ (fun H locs hP hD hS => ?_)
  refine lv_iload hx hb dL_law_361 (lv_at hl 1 rfl) ?_
  refine lv_icmp_eq (tgt := 368) hx hb dL_law_363 (by decide) (fun _ => ?_) (fun h9 => absurd (show fx4_thrown y.2 = (kc 1 1 ec) from hkc.symm) h9)
  refine lv_iload hx hb dL_law_368 (lv_at hl 1 rfl) ?_
  refine lv_if_ne (tgt := 385) hx hb dL_law_370 (by decide) (fun _ => ?_) (fun h9 => ?_)
  · refine lv_goto (tgt := 1476) hx hb dL_law_385 (by decide) ?_
    exact kk _ _ _ hKL _ _ hP hD hS _ (lv_sub hl [2, 3, 4, 5, 6] rfl)
  · have he : ec = 0 := kc0 (by decide) (by decide) hE h9
    have hr2 := hr he
    rw [if_pos he] at hP hD
    subst hr2
    refine lv_aload_n hx hb dL_law_373 rfl (lv_at hl 5 rfl) ?_
    refine lv_iconst (v := 0) hx hb dL_law_374 (by decide) ?_
    refine va_lald hx hb hK hP 0 3 rfl rfl (by unfold vp_in; decide) dL_law_375 ?_
    refine kw_top (v := .long y.1.toInt64) (by rw [show (0 : Int32).toNatClampNeg = 0 from rfl, va_up_self]) ?_
    refine lv_iload hx hb dL_law_376 (lv_at hl 0 rfl) ?_
    refine lv_i2l (v := y.1.toInt64) hx hb dL_law_378 rfl ?_
    refine W.lcmp hx hb dL_law_379 ?_
    refine lv_if_eq (tgt := 385) hx hb dL_law_380 (by decide) (fun _ => ?_) (fun h8 => absurd (klcmp _) h8)
    refine lv_goto (tgt := 1476) hx hb dL_law_385 (by decide) ?_
    exact kk _ _ _ hKL _ _ hP hD hS _ (lv_sub hl [2, 3, 4, 5, 6] rfl)

set_option maxHeartbeats 4000000 in
set_option maxRecDepth 100000 in
theorem law_jam {p : Program} {l : Launch} {e : Env} {s : State} {m : MethodId} {below : List Frame} {meth : Method} {c : Code} {b Ln : Nat} {xs : Nat → Int32} {D : va_G} {cI cB cS cJ : ClassId} {K : State → Prop} {Q : State → Prop} {aL : Nat → Nat → Nat} {am : Nat → Nat} {ao : Nat} {x4 : Int32} {o : Nat → Int64} {L : Nat → St} {M : Md} {H : Heap} {locs : List Loc} {cells slots : Nat} {ls : Array Slot} {B B2 : Int} (C : LC p l s m c b Ln xs D cI cB cS cJ K) (hi1 : vp_in (x4 + 1) Ln) (hkl : KL B L M) (hB : B + 1000 ≤ B2) (hL : B2 ≤ 1000000000) (hc : cells + 1 ≤ 601024) (hs : slots + 6 ≤ 7293034) (hP : va_P D vwCl (lawW cI cB cS cJ ao aL am o L M) H) (hD : va_D (fun q : Nat => s.heap.size ≤ q) (lawW cI cB cS cJ ao aL am o L M)) (hS : va_S (fun q : Nat => s.heap.size ≤ q) s.heap H locs) (hl : lv_has ls 9 (lv5 b aL am ao x4)) (kk : LK p l e s m below meth c b D cI cB cS cJ aL am ao x4 B2 cells slots Q) : W p l e room_1 s m #[Value.ref b] below meth c H locs cells slots Q (F0 m 388 ls []) := by
  obtain ⟨hx, hb, hml, hown, hts, hXX, hbl, EW, hfl, hKs, hSt⟩ := C
  have EX := EW.1
  have E := EX.1
  have hK := (E.2 s hKs).1
  have hA : ∀ q : Nat, s.heap.size ≤ q → (fun q : Nat => s.heap.size ≤ q) q := fun _ h => h
  have hbA : ¬ (fun q : Nat => s.heap.size ≤ q) b := Nat.not_le.mpr hbl
  have hX : CallFix p m c cL_law 9 s _ wsL_law RL := ⟨hx, hb, hml, hown, hts⟩
  have hl : lv_has ls 9 [(0, .ref b), (1, .ref (aL 7 0)), (2, .ref (am 0)), (3, .ref ao), (4, .int x4)] := hl
  obtain ⟨a1, ea1⟩ : ∃ y, y = xs (x4 + 1).toNatClampNeg := ⟨_, rfl⟩
  by_cases hz : a1 = 0
  · refine lv_aload_n hx hb dL_law_388 rfl (lv_at hl 1 rfl) ?_
    refine lv_aload_n hx hb dL_law_389 rfl (lv_at hl 0 rfl) ?_
    refine lv_iload hx hb dL_law_390 (lv_at hl 4 rfl) ?_
    refine lv_iconst (v := 1) hx hb dL_law_392 (by decide) ?_
    refine lv_iadd hx hb dL_law_393 ?_
    refine va_sld hx hb hXX hbl hbA hS hi1 dL_law_394 ?_
    refine kw_top (v := .int a1) (by rw [ea1]) ?_
    refine lv_if_eq (tgt := 402) hx hb dL_law_395 (by decide) (fun _ => ?_) (fun h9 => absurd hz h9)
    refine lv_iconst (v := 0) hx hb dL_law_402 (by decide) ?_
    obtain ⟨hs3, hs4, heq, hKL⟩ := q_jam (B' := B2) hkl (by omega) (show kbo (0 : Int32) from Or.inl rfl)
    refine kcI (ci := 3) (q0 := 0) (As := [.int 0]) (rest := []) E.1 (cx3_jam EX aL L (0 : Int32) hs3) hX (cwV 1 hts gL_law_X3_jam rfl rfl rfl hdX3_jam ⟨Nat.le_of_ble_eq_true rfl, Nat.le_of_ble_eq_true rfl⟩) hKs hK hP hD hS hA (outW cJ ao o) (mdW cI am M) rfl rfl rfl rfl rfl rfl hl.1 (Nat.le_of_ble_eq_true rfl) dL_law_403 ⟨Nat.le_of_succ_le hc, Nat.le_trans (Nat.le_add_right _ _) hs⟩ (fun H locs hP hD hS => ?_)
    have hP : va_P D vwCl (lawW cI cB cS cJ ao aL am o (fx3_jam L (0 : Int32)).2 M) H := hP
    have hD : va_D (fun q : Nat => s.heap.size ≤ q) (lawW cI cB cS cJ ao aL am o (fx3_jam L (0 : Int32)).2 M) := hD
    refine lv_aload_n hx hb dL_law_406 rfl (lv_at hl 2 rfl) ?_
    refine lv_aload_n hx hb dL_law_407 rfl (lv_at hl 0 rfl) ?_
    refine lv_iload hx hb dL_law_408 (lv_at hl 4 rfl) ?_
    refine lv_iconst (v := 1) hx hb dL_law_410 (by decide) ?_
    refine lv_iadd hx hb dL_law_411 ?_
    refine va_sld hx hb hXX hbl hbA hS hi1 dL_law_412 ?_
    refine kw_top (v := .int a1) (by rw [ea1]) ?_
    refine lv_if_eq (tgt := 420) hx hb dL_law_413 (by decide) (fun _ => ?_) (fun h9 => absurd hz h9)
    refine lv_iconst (v := 0) hx hb dL_law_420 (by decide) ?_
    refine kcI (ci := 4) (q0 := 0) (As := [.int 0]) (rest := [.int ((fx3_jam L (0 : Int32)).1)]) E.1 (cx4_jam E am M (0 : Int32) hs4) hX (cwV 1 hts gL_law_X4_jam rfl rfl rfl hdX4_jam ⟨Nat.le_of_ble_eq_true rfl, Nat.le_of_ble_eq_true rfl⟩) hKs hK hP hD hS hA _ _ (law_md cI cB cS cJ ao aL am o (fx3_jam L (0 : Int32)).2 M) (law_md cI cB cS cJ ao aL am o (fx3_jam L (0 : Int32)).2 (fx4_jam M (0 : Int32)).2).symm rfl rfl rfl rfl hl.1 (Nat.le_of_ble_eq_true rfl) dL_law_421 ⟨Nat.le_of_succ_le hc, Nat.le_trans (Nat.le_add_right _ _) hs⟩ (fun H locs hP hD hS => ?_)
    refine W.widen (k := cells + 1) (n := slots + 6) (Nat.le_succ _) (Nat.le_add_right _ _) ?_
    refine lv_icmp_eq (tgt := 1476) hx hb dL_law_424 (by decide) (fun _ => ?_) (fun h9 => absurd heq h9)
    exact kk _ _ _ hKL _ _ hP hD hS _ hl
  · refine lv_aload_n hx hb dL_law_388 rfl (lv_at hl 1 rfl) ?_
    refine lv_aload_n hx hb dL_law_389 rfl (lv_at hl 0 rfl) ?_
    refine lv_iload hx hb dL_law_390 (lv_at hl 4 rfl) ?_
    refine lv_iconst (v := 1) hx hb dL_law_392 (by decide) ?_
    refine lv_iadd hx hb dL_law_393 ?_
    refine va_sld hx hb hXX hbl hbA hS hi1 dL_law_394 ?_
    refine kw_top (v := .int a1) (by rw [ea1]) ?_
    refine lv_if_eq (tgt := 402) hx hb dL_law_395 (by decide) (fun h9 => absurd h9 hz) (fun _ => ?_)
    refine lv_iconst (v := 1) hx hb dL_law_398 (by decide) ?_
    refine lv_goto (tgt := 403) hx hb dL_law_399 (by decide) ?_
    obtain ⟨hs3, hs4, heq, hKL⟩ := q_jam (B' := B2) hkl (by omega) (show kbo (1 : Int32) from Or.inr rfl)
    refine kcI (ci := 3) (q0 := 0) (As := [.int 1]) (rest := []) E.1 (cx3_jam EX aL L (1 : Int32) hs3) hX (cwV 1 hts gL_law_X3_jam rfl rfl rfl hdX3_jam ⟨Nat.le_of_ble_eq_true rfl, Nat.le_of_ble_eq_true rfl⟩) hKs hK hP hD hS hA (outW cJ ao o) (mdW cI am M) rfl rfl rfl rfl rfl rfl hl.1 (Nat.le_of_ble_eq_true rfl) dL_law_403 ⟨Nat.le_of_succ_le hc, Nat.le_trans (Nat.le_add_right _ _) hs⟩ (fun H locs hP hD hS => ?_)
    have hP : va_P D vwCl (lawW cI cB cS cJ ao aL am o (fx3_jam L (1 : Int32)).2 M) H := hP
    have hD : va_D (fun q : Nat => s.heap.size ≤ q) (lawW cI cB cS cJ ao aL am o (fx3_jam L (1 : Int32)).2 M) := hD
    refine lv_aload_n hx hb dL_law_406 rfl (lv_at hl 2 rfl) ?_
    refine lv_aload_n hx hb dL_law_407 rfl (lv_at hl 0 rfl) ?_
    refine lv_iload hx hb dL_law_408 (lv_at hl 4 rfl) ?_
    refine lv_iconst (v := 1) hx hb dL_law_410 (by decide) ?_
    refine lv_iadd hx hb dL_law_411 ?_
    refine va_sld hx hb hXX hbl hbA hS hi1 dL_law_412 ?_
    refine kw_top (v := .int a1) (by rw [ea1]) ?_
    refine lv_if_eq (tgt := 420) hx hb dL_law_413 (by decide) (fun h9 => absurd h9 hz) (fun _ => ?_)
    refine lv_iconst (v := 1) hx hb dL_law_416 (by decide) ?_
    refine lv_goto (tgt := 421) hx hb dL_law_417 (by decide) ?_
    refine kcI (ci := 4) (q0 := 0) (As := [.int 1]) (rest := [.int ((fx3_jam L (1 : Int32)).1)]) E.1 (cx4_jam E am M (1 : Int32) hs4) hX (cwV 1 hts gL_law_X4_jam rfl rfl rfl hdX4_jam ⟨Nat.le_of_ble_eq_true rfl, Nat.le_of_ble_eq_true rfl⟩) hKs hK hP hD hS hA _ _ (law_md cI cB cS cJ ao aL am o (fx3_jam L (1 : Int32)).2 M) (law_md cI cB cS cJ ao aL am o (fx3_jam L (1 : Int32)).2 (fx4_jam M (1 : Int32)).2).symm rfl rfl rfl rfl hl.1 (Nat.le_of_ble_eq_true rfl) dL_law_421 ⟨Nat.le_of_succ_le hc, Nat.le_trans (Nat.le_add_right _ _) hs⟩ (fun H locs hP hD hS => ?_)
    refine W.widen (k := cells + 1) (n := slots + 6) (Nat.le_succ _) (Nat.le_add_right _ _) ?_
    refine lv_icmp_eq (tgt := 1476) hx hb dL_law_424 (by decide) (fun _ => ?_) (fun h9 => absurd heq h9)
    exact kk _ _ _ hKL _ _ hP hD hS _ hl

set_option maxHeartbeats 4000000 in
set_option maxRecDepth 100000 in
theorem law_start {p : Program} {l : Launch} {e : Env} {s : State} {m : MethodId} {below : List Frame} {meth : Method} {c : Code} {b Ln : Nat} {xs : Nat → Int32} {D : va_G} {cI cB cS cJ : ClassId} {K : State → Prop} {Q : State → Prop} {aL : Nat → Nat → Nat} {am : Nat → Nat} {ao : Nat} {x4 : Int32} {o : Nat → Int64} {L : Nat → St} {M : Md} {H : Heap} {locs : List Loc} {cells slots : Nat} {ls : Array Slot} {B B2 : Int} (C : LC p l s m c b Ln xs D cI cB cS cJ K)  (hkl : KL B L M) (hB : B + 1000 ≤ B2) (hL : B2 ≤ 1000000000) (hc : cells + 1 ≤ 601024) (hs : slots + 6 ≤ 7293034) (hP : va_P D vwCl (lawW cI cB cS cJ ao aL am o L M) H) (hD : va_D (fun q : Nat => s.heap.size ≤ q) (lawW cI cB cS cJ ao aL am o L M)) (hS : va_S (fun q : Nat => s.heap.size ≤ q) s.heap H locs) (hl : lv_has ls 9 (lv5 b aL am ao x4)) (kk : LK p l e s m below meth c b D cI cB cS cJ aL am ao x4 B2 cells slots Q) : W p l e room_1 s m #[Value.ref b] below meth c H locs cells slots Q (F0 m 429 ls []) := by
  obtain ⟨hx, hb, hml, hown, hts, hXX, hbl, EW, hfl, hKs, hSt⟩ := C
  have EX := EW.1
  have E := EX.1
  have hK := (E.2 s hKs).1
  have hA : ∀ q : Nat, s.heap.size ≤ q → (fun q : Nat => s.heap.size ≤ q) q := fun _ h => h
  have hbA : ¬ (fun q : Nat => s.heap.size ≤ q) b := Nat.not_le.mpr hbl
  have hX : CallFix p m c cL_law 9 s _ wsL_law RL := ⟨hx, hb, hml, hown, hts⟩
  have hl : lv_has ls 9 [(0, .ref b), (1, .ref (aL 7 0)), (2, .ref (am 0)), (3, .ref ao), (4, .int x4)] := hl
  refine lv_aload_n hx hb dL_law_429 rfl (lv_at hl 1 rfl) ?_
  refine lv_aload_n hx hb dL_law_430 rfl (lv_at hl 3 rfl) ?_
  obtain ⟨hs3, hs4, hE, hkc, hr, hKL⟩ := q_start (B' := B2) hkl (by omega)
  have hM := cx3_start EX hfl aL L  hs3
  have hm4 := cx4_start (l := l) E am M  hs4
  have hT := t3_start L 
  unfold T3 at hT
  generalize (fx3_start L).1 = ec at hE hkc hr hM hT
  generalize (fx3_start L).2.1 = r at hr hM
  generalize (fx3_start L).2.2 = L2 at hKL hM hT
  generalize fx4_start M  = y at hkc hr hKL hm4
  refine kcsY (As := [.ref (aL 7 0), .ref ao]) (rest := []) E.1 (cw_start EW aL L L2 ao o  hM hE hT) hX (vx_cwSW 2 hts gL_law_L_start rfl rfl rfl hdL_start ⟨Nat.le_of_ble_eq_true rfl, Nat.le_of_ble_eq_true rfl⟩) hKs hP hD hS hA hSt [] (mdW cI am M) (law_ls cI cB cS cJ ao aL am o L M) (law_ls cI cB cS cJ ao aL am (if ec = 0 then va_up o 0 r.toInt64 else o) L2 M).symm rfl rfl hl.1 (Nat.le_of_ble_eq_true rfl) dL_law_431 ⟨hc, hs⟩ (fun H locs hP hD hS => ?_)
  refine lv_istore (lv' := (5, .int (kc 2 2 ec)) :: [(0, .ref b), (1, .ref (aL 7 0)), (2, .ref (am 0)), (3, .ref ao), (4, .int x4)]) hx hb dL_law_434 hl (by decide) rfl (fun ls hl => ?_)
  refine lv_aload_n hx hb dL_law_436 rfl (lv_at hl 3 rfl) ?_
  refine kcI (ci := 4) (q0 := 0) (As := []) (rest := []) E.1 hm4 hX (cwV 0 hts gL_law_X4_start rfl rfl rfl hdX4_start ⟨Nat.le_of_ble_eq_true rfl, Nat.le_of_ble_eq_true rfl⟩) hKs hK hP hD hS hA _ _ (law_md cI cB cS cJ ao aL am (if ec = 0 then va_up o 0 r.toInt64 else o) L2 M) (law_md cI cB cS cJ ao aL am (if ec = 0 then va_up o 0 r.toInt64 else o) L2 y.2).symm rfl rfl rfl rfl hl.1 (Nat.le_of_ble_eq_true rfl) dL_law_437 ⟨hc, hs⟩ (fun H locs hP hD hS => ?_)
  refine lv_istore (lv' := (6, .int y.1) :: [(5, .int (kc 2 2 ec)), (0, .ref b), (1, .ref (aL 7 0)), (2, .ref (am 0)), (3, .ref ao), (4, .int x4)]) hx hb dL_law_440 hl (by decide) rfl (fun ls hl => ?_)
  refine lv_aload_n hx hb dL_law_442 rfl (lv_at hl 4 rfl) ?_
  refine kcI (ci := 4) (q0 := 0) (As := []) (rest := []) E.1 (cx4_thrown (l := l) E am y.2) hX (cwV 0 hts gL_law_X4_thrown rfl rfl rfl hdX4_thrown ⟨Nat.le_of_ble_eq_true rfl, Nat.le_of_ble_eq_true rfl⟩) hKs hK hP hD hS hA _ _ (law_md cI cB cS cJ ao aL am (if ec = 0 then va_up o 0 r.toInt64 else o) L2 y.2) (law_md cI cB cS cJ ao aL am (if ec = 0 then va_up o 0 r.toInt64 else o) L2 y.2).symm rfl rfl rfl rfl hl.1 (Nat.le_of_ble_eq_true rfl) dL_law_443 ⟨hc, hs⟩ (fun H locs hP hD hS => ?_)
  refine lv_iload hx hb dL_law_446 (lv_at hl 1 rfl) ?_
  refine lv_icmp_eq (tgt := 453) hx hb dL_law_448 (by decide) (fun _ => ?_) (fun h9 => absurd (show fx4_thrown y.2 = (kc 2 2 ec) from hkc.symm) h9)
  refine lv_iload hx hb dL_law_453 (lv_at hl 1 rfl) ?_
  refine lv_if_ne (tgt := 470) hx hb dL_law_455 (by decide) (fun _ => ?_) (fun h9 => ?_)
  · refine lv_goto (tgt := 1476) hx hb dL_law_470 (by decide) ?_
    exact kk _ _ _ hKL _ _ hP hD hS _ (lv_sub hl [2, 3, 4, 5, 6] rfl)
  · have he : ec = 0 := kc0 (by decide) (by decide) hE h9
    have hr2 := hr he
    rw [if_pos he] at hP hD
    subst hr2
    refine lv_aload_n hx hb dL_law_458 rfl (lv_at hl 5 rfl) ?_
    refine lv_iconst (v := 0) hx hb dL_law_459 (by decide) ?_
    refine va_lald hx hb hK hP 0 3 rfl rfl (by unfold vp_in; decide) dL_law_460 ?_
    refine kw_top (v := .long y.1.toInt64) (by rw [show (0 : Int32).toNatClampNeg = 0 from rfl, va_up_self]) ?_
    refine lv_iload hx hb dL_law_461 (lv_at hl 0 rfl) ?_
    refine lv_i2l (v := y.1.toInt64) hx hb dL_law_463 rfl ?_
    refine W.lcmp hx hb dL_law_464 ?_
    refine lv_if_eq (tgt := 470) hx hb dL_law_465 (by decide) (fun _ => ?_) (fun h8 => absurd (klcmp _) h8)
    refine lv_goto (tgt := 1476) hx hb dL_law_470 (by decide) ?_
    exact kk _ _ _ hKL _ _ hP hD hS _ (lv_sub hl [2, 3, 4, 5, 6] rfl)

set_option maxHeartbeats 4000000 in
set_option maxRecDepth 100000 in
theorem law_stop {p : Program} {l : Launch} {e : Env} {s : State} {m : MethodId} {below : List Frame} {meth : Method} {c : Code} {b Ln : Nat} {xs : Nat → Int32} {D : va_G} {cI cB cS cJ : ClassId} {K : State → Prop} {Q : State → Prop} {aL : Nat → Nat → Nat} {am : Nat → Nat} {ao : Nat} {x4 : Int32} {o : Nat → Int64} {L : Nat → St} {M : Md} {H : Heap} {locs : List Loc} {cells slots : Nat} {ls : Array Slot} {B B2 : Int} (C : LC p l s m c b Ln xs D cI cB cS cJ K)  (hkl : KL B L M) (hB : B + 1000 ≤ B2) (hL : B2 ≤ 1000000000) (hc : cells + 1 ≤ 601024) (hs : slots + 6 ≤ 7293034) (hP : va_P D vwCl (lawW cI cB cS cJ ao aL am o L M) H) (hD : va_D (fun q : Nat => s.heap.size ≤ q) (lawW cI cB cS cJ ao aL am o L M)) (hS : va_S (fun q : Nat => s.heap.size ≤ q) s.heap H locs) (hl : lv_has ls 9 (lv5 b aL am ao x4)) (kk : LK p l e s m below meth c b D cI cB cS cJ aL am ao x4 B2 cells slots Q) : W p l e room_1 s m #[Value.ref b] below meth c H locs cells slots Q (F0 m 473 ls []) := by
  obtain ⟨hx, hb, hml, hown, hts, hXX, hbl, EW, hfl, hKs, hSt⟩ := C
  have EX := EW.1
  have E := EX.1
  have hK := (E.2 s hKs).1
  have hA : ∀ q : Nat, s.heap.size ≤ q → (fun q : Nat => s.heap.size ≤ q) q := fun _ h => h
  have hbA : ¬ (fun q : Nat => s.heap.size ≤ q) b := Nat.not_le.mpr hbl
  have hX : CallFix p m c cL_law 9 s _ wsL_law RL := ⟨hx, hb, hml, hown, hts⟩
  have hl : lv_has ls 9 [(0, .ref b), (1, .ref (aL 7 0)), (2, .ref (am 0)), (3, .ref ao), (4, .int x4)] := hl
  refine lv_aload_n hx hb dL_law_473 rfl (lv_at hl 1 rfl) ?_
  refine lv_aload_n hx hb dL_law_474 rfl (lv_at hl 3 rfl) ?_
  obtain ⟨hs3, hs4, hE, hkc, hr, hKL⟩ := q_stop (B' := B2) hkl (by omega)
  have hM := cx3_stop EX hfl aL L  hs3
  have hm4 := cx4_stop (l := l) E am M  hs4
  have hT := t3_stop L 
  unfold T3 at hT
  generalize (fx3_stop L).1 = ec at hE hkc hr hM hT
  generalize (fx3_stop L).2.1 = r at hr hM
  generalize (fx3_stop L).2.2 = L2 at hKL hM hT
  generalize fx4_stop M  = y at hkc hr hKL hm4
  refine kcsY (As := [.ref (aL 7 0), .ref ao]) (rest := []) E.1 (cw_stop EW aL L L2 ao o  hM hE hT) hX (vx_cwSW 2 hts gL_law_L_stop rfl rfl rfl hdL_stop ⟨Nat.le_of_ble_eq_true rfl, Nat.le_of_ble_eq_true rfl⟩) hKs hP hD hS hA hSt [] (mdW cI am M) (law_ls cI cB cS cJ ao aL am o L M) (law_ls cI cB cS cJ ao aL am (if ec = 0 then va_up o 0 r.toInt64 else o) L2 M).symm rfl rfl hl.1 (Nat.le_of_ble_eq_true rfl) dL_law_475 ⟨hc, hs⟩ (fun H locs hP hD hS => ?_)
  refine lv_istore (lv' := (5, .int (kc 2 2 ec)) :: [(0, .ref b), (1, .ref (aL 7 0)), (2, .ref (am 0)), (3, .ref ao), (4, .int x4)]) hx hb dL_law_478 hl (by decide) rfl (fun ls hl => ?_)
  refine lv_aload_n hx hb dL_law_480 rfl (lv_at hl 3 rfl) ?_
  refine kcI (ci := 4) (q0 := 0) (As := []) (rest := []) E.1 hm4 hX (cwV 0 hts gL_law_X4_stop rfl rfl rfl hdX4_stop ⟨Nat.le_of_ble_eq_true rfl, Nat.le_of_ble_eq_true rfl⟩) hKs hK hP hD hS hA _ _ (law_md cI cB cS cJ ao aL am (if ec = 0 then va_up o 0 r.toInt64 else o) L2 M) (law_md cI cB cS cJ ao aL am (if ec = 0 then va_up o 0 r.toInt64 else o) L2 y.2).symm rfl rfl rfl rfl hl.1 (Nat.le_of_ble_eq_true rfl) dL_law_481 ⟨hc, hs⟩ (fun H locs hP hD hS => ?_)
  refine lv_istore (lv' := (6, .int y.1) :: [(5, .int (kc 2 2 ec)), (0, .ref b), (1, .ref (aL 7 0)), (2, .ref (am 0)), (3, .ref ao), (4, .int x4)]) hx hb dL_law_484 hl (by decide) rfl (fun ls hl => ?_)
  refine lv_aload_n hx hb dL_law_486 rfl (lv_at hl 4 rfl) ?_
  refine kcI (ci := 4) (q0 := 0) (As := []) (rest := []) E.1 (cx4_thrown (l := l) E am y.2) hX (cwV 0 hts gL_law_X4_thrown rfl rfl rfl hdX4_thrown ⟨Nat.le_of_ble_eq_true rfl, Nat.le_of_ble_eq_true rfl⟩) hKs hK hP hD hS hA _ _ (law_md cI cB cS cJ ao aL am (if ec = 0 then va_up o 0 r.toInt64 else o) L2 y.2) (law_md cI cB cS cJ ao aL am (if ec = 0 then va_up o 0 r.toInt64 else o) L2 y.2).symm rfl rfl rfl rfl hl.1 (Nat.le_of_ble_eq_true rfl) dL_law_487 ⟨hc, hs⟩ (fun H locs hP hD hS => ?_)
  refine lv_iload hx hb dL_law_490 (lv_at hl 1 rfl) ?_
  refine lv_icmp_eq (tgt := 497) hx hb dL_law_492 (by decide) (fun _ => ?_) (fun h9 => absurd (show fx4_thrown y.2 = (kc 2 2 ec) from hkc.symm) h9)
  refine lv_iload hx hb dL_law_497 (lv_at hl 1 rfl) ?_
  refine lv_if_ne (tgt := 514) hx hb dL_law_499 (by decide) (fun _ => ?_) (fun h9 => ?_)
  · refine lv_goto (tgt := 1476) hx hb dL_law_514 (by decide) ?_
    exact kk _ _ _ hKL _ _ hP hD hS _ (lv_sub hl [2, 3, 4, 5, 6] rfl)
  · have he : ec = 0 := kc0 (by decide) (by decide) hE h9
    have hr2 := hr he
    rw [if_pos he] at hP hD
    subst hr2
    refine lv_aload_n hx hb dL_law_502 rfl (lv_at hl 5 rfl) ?_
    refine lv_iconst (v := 0) hx hb dL_law_503 (by decide) ?_
    refine va_lald hx hb hK hP 0 3 rfl rfl (by unfold vp_in; decide) dL_law_504 ?_
    refine kw_top (v := .long y.1.toInt64) (by rw [show (0 : Int32).toNatClampNeg = 0 from rfl, va_up_self]) ?_
    refine lv_iload hx hb dL_law_505 (lv_at hl 0 rfl) ?_
    refine lv_i2l (v := y.1.toInt64) hx hb dL_law_507 rfl ?_
    refine W.lcmp hx hb dL_law_508 ?_
    refine lv_if_eq (tgt := 514) hx hb dL_law_509 (by decide) (fun _ => ?_) (fun h8 => absurd (klcmp _) h8)
    refine lv_goto (tgt := 1476) hx hb dL_law_514 (by decide) ?_
    exact kk _ _ _ hKL _ _ hP hD hS _ (lv_sub hl [2, 3, 4, 5, 6] rfl)

set_option maxHeartbeats 4000000 in
set_option maxRecDepth 100000 in
theorem law_reset {p : Program} {l : Launch} {e : Env} {s : State} {m : MethodId} {below : List Frame} {meth : Method} {c : Code} {b Ln : Nat} {xs : Nat → Int32} {D : va_G} {cI cB cS cJ : ClassId} {K : State → Prop} {Q : State → Prop} {aL : Nat → Nat → Nat} {am : Nat → Nat} {ao : Nat} {x4 : Int32} {o : Nat → Int64} {L : Nat → St} {M : Md} {H : Heap} {locs : List Loc} {cells slots : Nat} {ls : Array Slot} {B B2 : Int} (C : LC p l s m c b Ln xs D cI cB cS cJ K)  (hkl : KL B L M) (hB : B + 1000 ≤ B2) (hL : B2 ≤ 1000000000) (hc : cells + 1 ≤ 601024) (hs : slots + 6 ≤ 7293034) (hP : va_P D vwCl (lawW cI cB cS cJ ao aL am o L M) H) (hD : va_D (fun q : Nat => s.heap.size ≤ q) (lawW cI cB cS cJ ao aL am o L M)) (hS : va_S (fun q : Nat => s.heap.size ≤ q) s.heap H locs) (hl : lv_has ls 9 (lv5 b aL am ao x4)) (kk : LK p l e s m below meth c b D cI cB cS cJ aL am ao x4 B2 cells slots Q) : W p l e room_1 s m #[Value.ref b] below meth c H locs cells slots Q (F0 m 517 ls []) := by
  obtain ⟨hx, hb, hml, hown, hts, hXX, hbl, EW, hfl, hKs, hSt⟩ := C
  have EX := EW.1
  have E := EX.1
  have hK := (E.2 s hKs).1
  have hA : ∀ q : Nat, s.heap.size ≤ q → (fun q : Nat => s.heap.size ≤ q) q := fun _ h => h
  have hbA : ¬ (fun q : Nat => s.heap.size ≤ q) b := Nat.not_le.mpr hbl
  have hX : CallFix p m c cL_law 9 s _ wsL_law RL := ⟨hx, hb, hml, hown, hts⟩
  have hl : lv_has ls 9 [(0, .ref b), (1, .ref (aL 7 0)), (2, .ref (am 0)), (3, .ref ao), (4, .int x4)] := hl
  refine lv_aload_n hx hb dL_law_517 rfl (lv_at hl 1 rfl) ?_
  refine lv_aload_n hx hb dL_law_518 rfl (lv_at hl 3 rfl) ?_
  obtain ⟨hs3, hs4, hE, hkc, hr, hKL⟩ := q_reset (B' := B2) hkl (by omega)
  have hM := cx3_reset EX hfl aL L  hs3
  have hm4 := cx4_reset (l := l) E am M  hs4
  have hT := t3_reset L 
  unfold T3 at hT
  generalize (fx3_reset L).1 = ec at hE hkc hr hM hT
  generalize (fx3_reset L).2.1 = r at hr hM
  generalize (fx3_reset L).2.2 = L2 at hKL hM hT
  generalize fx4_reset M  = y at hkc hr hKL hm4
  refine kcsY (As := [.ref (aL 7 0), .ref ao]) (rest := []) E.1 (cw_reset EW aL L L2 ao o  hM hE hT) hX (vx_cwSW 2 hts gL_law_L_reset rfl rfl rfl hdL_reset ⟨Nat.le_of_ble_eq_true rfl, Nat.le_of_ble_eq_true rfl⟩) hKs hP hD hS hA hSt [] (mdW cI am M) (law_ls cI cB cS cJ ao aL am o L M) (law_ls cI cB cS cJ ao aL am (if ec = 0 then va_up o 0 r.toInt64 else o) L2 M).symm rfl rfl hl.1 (Nat.le_of_ble_eq_true rfl) dL_law_519 ⟨hc, hs⟩ (fun H locs hP hD hS => ?_)
  refine lv_istore (lv' := (5, .int (kc 2 2 ec)) :: [(0, .ref b), (1, .ref (aL 7 0)), (2, .ref (am 0)), (3, .ref ao), (4, .int x4)]) hx hb dL_law_522 hl (by decide) rfl (fun ls hl => ?_)
  refine lv_aload_n hx hb dL_law_524 rfl (lv_at hl 3 rfl) ?_
  refine kcI (ci := 4) (q0 := 0) (As := []) (rest := []) E.1 hm4 hX (cwV 0 hts gL_law_X4_reset rfl rfl rfl hdX4_reset ⟨Nat.le_of_ble_eq_true rfl, Nat.le_of_ble_eq_true rfl⟩) hKs hK hP hD hS hA _ _ (law_md cI cB cS cJ ao aL am (if ec = 0 then va_up o 0 r.toInt64 else o) L2 M) (law_md cI cB cS cJ ao aL am (if ec = 0 then va_up o 0 r.toInt64 else o) L2 y.2).symm rfl rfl rfl rfl hl.1 (Nat.le_of_ble_eq_true rfl) dL_law_525 ⟨hc, hs⟩ (fun H locs hP hD hS => ?_)
  refine lv_istore (lv' := (6, .int y.1) :: [(5, .int (kc 2 2 ec)), (0, .ref b), (1, .ref (aL 7 0)), (2, .ref (am 0)), (3, .ref ao), (4, .int x4)]) hx hb dL_law_528 hl (by decide) rfl (fun ls hl => ?_)
  refine lv_aload_n hx hb dL_law_530 rfl (lv_at hl 4 rfl) ?_
  refine kcI (ci := 4) (q0 := 0) (As := []) (rest := []) E.1 (cx4_thrown (l := l) E am y.2) hX (cwV 0 hts gL_law_X4_thrown rfl rfl rfl hdX4_thrown ⟨Nat.le_of_ble_eq_true rfl, Nat.le_of_ble_eq_true rfl⟩) hKs hK hP hD hS hA _ _ (law_md cI cB cS cJ ao aL am (if ec = 0 then va_up o 0 r.toInt64 else o) L2 y.2) (law_md cI cB cS cJ ao aL am (if ec = 0 then va_up o 0 r.toInt64 else o) L2 y.2).symm rfl rfl rfl rfl hl.1 (Nat.le_of_ble_eq_true rfl) dL_law_531 ⟨hc, hs⟩ (fun H locs hP hD hS => ?_)
  refine lv_iload hx hb dL_law_534 (lv_at hl 1 rfl) ?_
  refine lv_icmp_eq (tgt := 541) hx hb dL_law_536 (by decide) (fun _ => ?_) (fun h9 => absurd (show fx4_thrown y.2 = (kc 2 2 ec) from hkc.symm) h9)
  refine lv_iload hx hb dL_law_541 (lv_at hl 1 rfl) ?_
  refine lv_if_ne (tgt := 558) hx hb dL_law_543 (by decide) (fun _ => ?_) (fun h9 => ?_)
  · refine lv_goto (tgt := 1476) hx hb dL_law_558 (by decide) ?_
    exact kk _ _ _ hKL _ _ hP hD hS _ (lv_sub hl [2, 3, 4, 5, 6] rfl)
  · have he : ec = 0 := kc0 (by decide) (by decide) hE h9
    have hr2 := hr he
    rw [if_pos he] at hP hD
    subst hr2
    refine lv_aload_n hx hb dL_law_546 rfl (lv_at hl 5 rfl) ?_
    refine lv_iconst (v := 0) hx hb dL_law_547 (by decide) ?_
    refine va_lald hx hb hK hP 0 3 rfl rfl (by unfold vp_in; decide) dL_law_548 ?_
    refine kw_top (v := .long y.1.toInt64) (by rw [show (0 : Int32).toNatClampNeg = 0 from rfl, va_up_self]) ?_
    refine lv_iload hx hb dL_law_549 (lv_at hl 0 rfl) ?_
    refine lv_i2l (v := y.1.toInt64) hx hb dL_law_551 rfl ?_
    refine W.lcmp hx hb dL_law_552 ?_
    refine lv_if_eq (tgt := 558) hx hb dL_law_553 (by decide) (fun _ => ?_) (fun h8 => absurd (klcmp _) h8)
    refine lv_goto (tgt := 1476) hx hb dL_law_558 (by decide) ?_
    exact kk _ _ _ hKL _ _ hP hD hS _ (lv_sub hl [2, 3, 4, 5, 6] rfl)

set_option maxHeartbeats 4000000 in
set_option maxRecDepth 100000 in
theorem law_feed {p : Program} {l : Launch} {e : Env} {s : State} {m : MethodId} {below : List Frame} {meth : Method} {c : Code} {b Ln : Nat} {xs : Nat → Int32} {D : va_G} {cI cB cS cJ : ClassId} {K : State → Prop} {Q : State → Prop} {aL : Nat → Nat → Nat} {am : Nat → Nat} {ao : Nat} {x4 : Int32} {o : Nat → Int64} {L : Nat → St} {M : Md} {H : Heap} {locs : List Loc} {cells slots : Nat} {ls : Array Slot} {B B2 : Int} (C : LC p l s m c b Ln xs D cI cB cS cJ K) (hi1 : vp_in (x4 + 1) Ln) (hkl : KL B L M) (hB : B + 1000 ≤ B2) (hL : B2 ≤ 1000000000) (hc : cells + 1 ≤ 601024) (hs : slots + 6 ≤ 7293034) (hP : va_P D vwCl (lawW cI cB cS cJ ao aL am o L M) H) (hD : va_D (fun q : Nat => s.heap.size ≤ q) (lawW cI cB cS cJ ao aL am o L M)) (hS : va_S (fun q : Nat => s.heap.size ≤ q) s.heap H locs) (hl : lv_has ls 9 (lv5 b aL am ao x4)) (kk : LK p l e s m below meth c b D cI cB cS cJ aL am ao x4 B2 cells slots Q) : W p l e room_1 s m #[Value.ref b] below meth c H locs cells slots Q (F0 m 561 ls []) := by
  obtain ⟨hx, hb, hml, hown, hts, hXX, hbl, EW, hfl, hKs, hSt⟩ := C
  have EX := EW.1
  have E := EX.1
  have hK := (E.2 s hKs).1
  have hA : ∀ q : Nat, s.heap.size ≤ q → (fun q : Nat => s.heap.size ≤ q) q := fun _ h => h
  have hbA : ¬ (fun q : Nat => s.heap.size ≤ q) b := Nat.not_le.mpr hbl
  have hX : CallFix p m c cL_law 9 s _ wsL_law RL := ⟨hx, hb, hml, hown, hts⟩
  have hl : lv_has ls 9 [(0, .ref b), (1, .ref (aL 7 0)), (2, .ref (am 0)), (3, .ref ao), (4, .int x4)] := hl
  obtain ⟨a1, ea1⟩ : ∃ y, y = xs (x4 + 1).toNatClampNeg := ⟨_, rfl⟩
  refine lv_aload_n hx hb dL_law_561 rfl (lv_at hl 1 rfl) ?_
  refine lv_aload_n hx hb dL_law_562 rfl (lv_at hl 0 rfl) ?_
  refine lv_iload hx hb dL_law_563 (lv_at hl 4 rfl) ?_
  refine lv_iconst (v := 1) hx hb dL_law_565 (by decide) ?_
  refine lv_iadd hx hb dL_law_566 ?_
  refine va_sld hx hb hXX hbl hbA hS hi1 dL_law_567 ?_
  refine kw_top (v := .int a1) (by rw [ea1]) ?_
  refine lv_aload_n hx hb dL_law_568 rfl (lv_at hl 3 rfl) ?_
  obtain ⟨hs3, hs4, hE, hkc, hr, hKL⟩ := q_feed (B' := B2) hkl (by omega) hL a1
  have hM := cx3_feed EX hfl aL L a1 hs3
  have hm4 := cx4_feed (l := l) E am M a1 hs4
  have hT := t3_feed L a1
  unfold T3 at hT
  generalize (fx3_feed L a1).1 = ec at hE hkc hr hM hT
  generalize (fx3_feed L a1).2.1 = r at hr hM
  generalize (fx3_feed L a1).2.2 = L2 at hKL hM hT
  generalize fx4_feed M a1 = y at hkc hr hKL hm4
  refine kcsY (As := [.ref (aL 7 0), .int a1, .ref ao]) (rest := []) E.1 (cw_feed EW aL L L2 ao o a1 hM hE hT) hX (vx_cwSW 3 hts gL_law_L_feed rfl rfl rfl hdL_feed ⟨Nat.le_of_ble_eq_true rfl, Nat.le_of_ble_eq_true rfl⟩) hKs hP hD hS hA hSt [] (mdW cI am M) (law_ls cI cB cS cJ ao aL am o L M) (law_ls cI cB cS cJ ao aL am (if ec = 0 then va_up o 0 r.toInt64 else o) L2 M).symm rfl rfl hl.1 (Nat.le_of_ble_eq_true rfl) dL_law_569 ⟨hc, hs⟩ (fun H locs hP hD hS => ?_)
  refine lv_istore (lv' := (5, .int (kc 1 2 ec)) :: [(0, .ref b), (1, .ref (aL 7 0)), (2, .ref (am 0)), (3, .ref ao), (4, .int x4)]) hx hb dL_law_572 hl (by decide) rfl (fun ls hl => ?_)
  refine lv_aload_n hx hb dL_law_574 rfl (lv_at hl 3 rfl) ?_
  refine lv_aload_n hx hb dL_law_575 rfl (lv_at hl 1 rfl) ?_
  refine lv_iload hx hb dL_law_576 (lv_at hl 5 rfl) ?_
  refine lv_iconst (v := 1) hx hb dL_law_578 (by decide) ?_
  refine lv_iadd hx hb dL_law_579 ?_
  refine va_sld hx hb hXX hbl hbA hS hi1 dL_law_580 ?_
  refine kw_top (v := .int a1) (by rw [ea1]) ?_
  refine kcI (ci := 4) (q0 := 0) (As := [.int a1]) (rest := []) E.1 hm4 hX (cwV 1 hts gL_law_X4_feed rfl rfl rfl hdX4_feed ⟨Nat.le_of_ble_eq_true rfl, Nat.le_of_ble_eq_true rfl⟩) hKs hK hP hD hS hA _ _ (law_md cI cB cS cJ ao aL am (if ec = 0 then va_up o 0 r.toInt64 else o) L2 M) (law_md cI cB cS cJ ao aL am (if ec = 0 then va_up o 0 r.toInt64 else o) L2 y.2).symm rfl rfl rfl rfl hl.1 (Nat.le_of_ble_eq_true rfl) dL_law_581 ⟨hc, hs⟩ (fun H locs hP hD hS => ?_)
  refine lv_istore (lv' := (6, .int y.1) :: [(5, .int (kc 1 2 ec)), (0, .ref b), (1, .ref (aL 7 0)), (2, .ref (am 0)), (3, .ref ao), (4, .int x4)]) hx hb dL_law_584 hl (by decide) rfl (fun ls hl => ?_)
  refine lv_aload_n hx hb dL_law_586 rfl (lv_at hl 4 rfl) ?_
  refine kcI (ci := 4) (q0 := 0) (As := []) (rest := []) E.1 (cx4_thrown (l := l) E am y.2) hX (cwV 0 hts gL_law_X4_thrown rfl rfl rfl hdX4_thrown ⟨Nat.le_of_ble_eq_true rfl, Nat.le_of_ble_eq_true rfl⟩) hKs hK hP hD hS hA _ _ (law_md cI cB cS cJ ao aL am (if ec = 0 then va_up o 0 r.toInt64 else o) L2 y.2) (law_md cI cB cS cJ ao aL am (if ec = 0 then va_up o 0 r.toInt64 else o) L2 y.2).symm rfl rfl rfl rfl hl.1 (Nat.le_of_ble_eq_true rfl) dL_law_587 ⟨hc, hs⟩ (fun H locs hP hD hS => ?_)
  refine lv_iload hx hb dL_law_590 (lv_at hl 1 rfl) ?_
  refine lv_icmp_eq (tgt := 597) hx hb dL_law_592 (by decide) (fun _ => ?_) (fun h9 => absurd (show fx4_thrown y.2 = (kc 1 2 ec) from hkc.symm) h9)
  refine lv_iload hx hb dL_law_597 (lv_at hl 1 rfl) ?_
  refine lv_if_ne (tgt := 614) hx hb dL_law_599 (by decide) (fun _ => ?_) (fun h9 => ?_)
  · refine lv_goto (tgt := 1476) hx hb dL_law_614 (by decide) ?_
    exact kk _ _ _ hKL _ _ hP hD hS _ (lv_sub hl [2, 3, 4, 5, 6] rfl)
  · have he : ec = 0 := kc0 (by decide) (by decide) hE h9
    have hr2 := hr he
    rw [if_pos he] at hP hD
    subst hr2
    refine lv_aload_n hx hb dL_law_602 rfl (lv_at hl 5 rfl) ?_
    refine lv_iconst (v := 0) hx hb dL_law_603 (by decide) ?_
    refine va_lald hx hb hK hP 0 3 rfl rfl (by unfold vp_in; decide) dL_law_604 ?_
    refine kw_top (v := .long y.1.toInt64) (by rw [show (0 : Int32).toNatClampNeg = 0 from rfl, va_up_self]) ?_
    refine lv_iload hx hb dL_law_605 (lv_at hl 0 rfl) ?_
    refine lv_i2l (v := y.1.toInt64) hx hb dL_law_607 rfl ?_
    refine W.lcmp hx hb dL_law_608 ?_
    refine lv_if_eq (tgt := 614) hx hb dL_law_609 (by decide) (fun _ => ?_) (fun h8 => absurd (klcmp _) h8)
    refine lv_goto (tgt := 1476) hx hb dL_law_614 (by decide) ?_
    exact kk _ _ _ hKL _ _ hP hD hS _ (lv_sub hl [2, 3, 4, 5, 6] rfl)

set_option maxHeartbeats 4000000 in
set_option maxRecDepth 100000 in
theorem law_slip {p : Program} {l : Launch} {e : Env} {s : State} {m : MethodId} {below : List Frame} {meth : Method} {c : Code} {b Ln : Nat} {xs : Nat → Int32} {D : va_G} {cI cB cS cJ : ClassId} {K : State → Prop} {Q : State → Prop} {aL : Nat → Nat → Nat} {am : Nat → Nat} {ao : Nat} {x4 : Int32} {o : Nat → Int64} {L : Nat → St} {M : Md} {H : Heap} {locs : List Loc} {cells slots : Nat} {ls : Array Slot} {B B2 : Int} (C : LC p l s m c b Ln xs D cI cB cS cJ K) (hi1 : vp_in (x4 + 1) Ln) (hi2 : vp_in (x4 + 2) Ln) (hkl : KL B L M) (hB : B + 1000 ≤ B2) (hL : B2 ≤ 1000000000) (hc : cells + 1 ≤ 601024) (hs : slots + 6 ≤ 7293034) (hP : va_P D vwCl (lawW cI cB cS cJ ao aL am o L M) H) (hD : va_D (fun q : Nat => s.heap.size ≤ q) (lawW cI cB cS cJ ao aL am o L M)) (hS : va_S (fun q : Nat => s.heap.size ≤ q) s.heap H locs) (hl : lv_has ls 9 (lv5 b aL am ao x4)) (kk : LK p l e s m below meth c b D cI cB cS cJ aL am ao x4 B2 cells slots Q) : W p l e room_1 s m #[Value.ref b] below meth c H locs cells slots Q (F0 m 617 ls []) := by
  obtain ⟨hx, hb, hml, hown, hts, hXX, hbl, EW, hfl, hKs, hSt⟩ := C
  have EX := EW.1
  have E := EX.1
  have hK := (E.2 s hKs).1
  have hA : ∀ q : Nat, s.heap.size ≤ q → (fun q : Nat => s.heap.size ≤ q) q := fun _ h => h
  have hbA : ¬ (fun q : Nat => s.heap.size ≤ q) b := Nat.not_le.mpr hbl
  have hX : CallFix p m c cL_law 9 s _ wsL_law RL := ⟨hx, hb, hml, hown, hts⟩
  have hl : lv_has ls 9 [(0, .ref b), (1, .ref (aL 7 0)), (2, .ref (am 0)), (3, .ref ao), (4, .int x4)] := hl
  obtain ⟨a1, ea1⟩ : ∃ y, y = xs (x4 + 1).toNatClampNeg := ⟨_, rfl⟩
  obtain ⟨a2, ea2⟩ : ∃ y, y = xs (x4 + 2).toNatClampNeg := ⟨_, rfl⟩
  refine lv_aload_n hx hb dL_law_617 rfl (lv_at hl 1 rfl) ?_
  refine lv_aload_n hx hb dL_law_618 rfl (lv_at hl 0 rfl) ?_
  refine lv_iload hx hb dL_law_619 (lv_at hl 4 rfl) ?_
  refine lv_iconst (v := 1) hx hb dL_law_621 (by decide) ?_
  refine lv_iadd hx hb dL_law_622 ?_
  refine va_sld hx hb hXX hbl hbA hS hi1 dL_law_623 ?_
  refine kw_top (v := .int a1) (by rw [ea1]) ?_
  refine lv_aload_n hx hb dL_law_624 rfl (lv_at hl 0 rfl) ?_
  refine lv_iload hx hb dL_law_625 (lv_at hl 4 rfl) ?_
  refine lv_iconst (v := 2) hx hb dL_law_627 (by decide) ?_
  refine lv_iadd hx hb dL_law_628 ?_
  refine va_sld hx hb hXX hbl hbA hS hi2 dL_law_629 ?_
  refine kw_top (v := .int a2) (by rw [ea2]) ?_
  refine lv_aload_n hx hb dL_law_630 rfl (lv_at hl 3 rfl) ?_
  obtain ⟨hs3, hs4, hE, hkc, hr, hKL⟩ := q_slip (B' := B2) hkl (by omega) a1 a2
  have hM := cx3_slip EX hfl aL L a1 a2 hs3
  have hm4 := cx4_slip (l := l) E am M a1 a2 hs4
  have hT := t3_slip L a1 a2
  unfold T3 at hT
  generalize (fx3_slip L a1 a2).1 = ec at hE hkc hr hM hT
  generalize (fx3_slip L a1 a2).2.1 = r at hr hM
  generalize (fx3_slip L a1 a2).2.2 = L2 at hKL hM hT
  generalize fx4_slip M a1 a2 = y at hkc hr hKL hm4
  refine kcsY (As := [.ref (aL 7 0), .int a1, .int a2, .ref ao]) (rest := []) E.1 (cw_slip EW aL L L2 ao o a1 a2 hM hE hT) hX (vx_cwSW 4 hts gL_law_L_slip rfl rfl rfl hdL_slip ⟨Nat.le_of_ble_eq_true rfl, Nat.le_of_ble_eq_true rfl⟩) hKs hP hD hS hA hSt [] (mdW cI am M) (law_ls cI cB cS cJ ao aL am o L M) (law_ls cI cB cS cJ ao aL am (if ec = 0 then va_up o 0 r.toInt64 else o) L2 M).symm rfl rfl hl.1 (Nat.le_of_ble_eq_true rfl) dL_law_631 ⟨hc, hs⟩ (fun H locs hP hD hS => ?_)
  refine lv_istore (lv' := (5, .int (kc 3 1 ec)) :: [(0, .ref b), (1, .ref (aL 7 0)), (2, .ref (am 0)), (3, .ref ao), (4, .int x4)]) hx hb dL_law_634 hl (by decide) rfl (fun ls hl => ?_)
  refine lv_aload_n hx hb dL_law_636 rfl (lv_at hl 3 rfl) ?_
  refine lv_aload_n hx hb dL_law_637 rfl (lv_at hl 1 rfl) ?_
  refine lv_iload hx hb dL_law_638 (lv_at hl 5 rfl) ?_
  refine lv_iconst (v := 1) hx hb dL_law_640 (by decide) ?_
  refine lv_iadd hx hb dL_law_641 ?_
  refine va_sld hx hb hXX hbl hbA hS hi1 dL_law_642 ?_
  refine kw_top (v := .int a1) (by rw [ea1]) ?_
  refine lv_aload_n hx hb dL_law_643 rfl (lv_at hl 1 rfl) ?_
  refine lv_iload hx hb dL_law_644 (lv_at hl 5 rfl) ?_
  refine lv_iconst (v := 2) hx hb dL_law_646 (by decide) ?_
  refine lv_iadd hx hb dL_law_647 ?_
  refine va_sld hx hb hXX hbl hbA hS hi2 dL_law_648 ?_
  refine kw_top (v := .int a2) (by rw [ea2]) ?_
  refine kcI (ci := 4) (q0 := 0) (As := [.int a1, .int a2]) (rest := []) E.1 hm4 hX (cwV 2 hts gL_law_X4_slip rfl rfl rfl hdX4_slip ⟨Nat.le_of_ble_eq_true rfl, Nat.le_of_ble_eq_true rfl⟩) hKs hK hP hD hS hA _ _ (law_md cI cB cS cJ ao aL am (if ec = 0 then va_up o 0 r.toInt64 else o) L2 M) (law_md cI cB cS cJ ao aL am (if ec = 0 then va_up o 0 r.toInt64 else o) L2 y.2).symm rfl rfl rfl rfl hl.1 (Nat.le_of_ble_eq_true rfl) dL_law_649 ⟨hc, hs⟩ (fun H locs hP hD hS => ?_)
  refine lv_istore (lv' := (6, .int y.1) :: [(5, .int (kc 3 1 ec)), (0, .ref b), (1, .ref (aL 7 0)), (2, .ref (am 0)), (3, .ref ao), (4, .int x4)]) hx hb dL_law_652 hl (by decide) rfl (fun ls hl => ?_)
  refine lv_aload_n hx hb dL_law_654 rfl (lv_at hl 4 rfl) ?_
  refine kcI (ci := 4) (q0 := 0) (As := []) (rest := []) E.1 (cx4_thrown (l := l) E am y.2) hX (cwV 0 hts gL_law_X4_thrown rfl rfl rfl hdX4_thrown ⟨Nat.le_of_ble_eq_true rfl, Nat.le_of_ble_eq_true rfl⟩) hKs hK hP hD hS hA _ _ (law_md cI cB cS cJ ao aL am (if ec = 0 then va_up o 0 r.toInt64 else o) L2 y.2) (law_md cI cB cS cJ ao aL am (if ec = 0 then va_up o 0 r.toInt64 else o) L2 y.2).symm rfl rfl rfl rfl hl.1 (Nat.le_of_ble_eq_true rfl) dL_law_655 ⟨hc, hs⟩ (fun H locs hP hD hS => ?_)
  refine lv_iload hx hb dL_law_658 (lv_at hl 1 rfl) ?_
  refine lv_icmp_eq (tgt := 665) hx hb dL_law_660 (by decide) (fun _ => ?_) (fun h9 => absurd (show fx4_thrown y.2 = (kc 3 1 ec) from hkc.symm) h9)
  refine lv_iload hx hb dL_law_665 (lv_at hl 1 rfl) ?_
  refine lv_if_ne (tgt := 682) hx hb dL_law_667 (by decide) (fun _ => ?_) (fun h9 => ?_)
  · refine lv_goto (tgt := 1476) hx hb dL_law_682 (by decide) ?_
    exact kk _ _ _ hKL _ _ hP hD hS _ (lv_sub hl [2, 3, 4, 5, 6] rfl)
  · have he : ec = 0 := kc0 (by decide) (by decide) hE h9
    have hr2 := hr he
    rw [if_pos he] at hP hD
    subst hr2
    refine lv_aload_n hx hb dL_law_670 rfl (lv_at hl 5 rfl) ?_
    refine lv_iconst (v := 0) hx hb dL_law_671 (by decide) ?_
    refine va_lald hx hb hK hP 0 3 rfl rfl (by unfold vp_in; decide) dL_law_672 ?_
    refine kw_top (v := .long y.1.toInt64) (by rw [show (0 : Int32).toNatClampNeg = 0 from rfl, va_up_self]) ?_
    refine lv_iload hx hb dL_law_673 (lv_at hl 0 rfl) ?_
    refine lv_i2l (v := y.1.toInt64) hx hb dL_law_675 rfl ?_
    refine W.lcmp hx hb dL_law_676 ?_
    refine lv_if_eq (tgt := 682) hx hb dL_law_677 (by decide) (fun _ => ?_) (fun h8 => absurd (klcmp _) h8)
    refine lv_goto (tgt := 1476) hx hb dL_law_682 (by decide) ?_
    exact kk _ _ _ hKL _ _ hP hD hS _ (lv_sub hl [2, 3, 4, 5, 6] rfl)

/-! more of the law's cases -/
set_option maxHeartbeats 4000000 in
set_option maxRecDepth 100000 in
theorem law_spare {p : Program} {l : Launch} {e : Env} {s : State} {m : MethodId} {below : List Frame} {meth : Method} {c : Code} {b Ln : Nat} {xs : Nat → Int32} {D : va_G} {cI cB cS cJ : ClassId} {K : State → Prop} {Q : State → Prop} {aL : Nat → Nat → Nat} {am : Nat → Nat} {ao : Nat} {x4 : Int32} {o : Nat → Int64} {L : Nat → St} {M : Md} {H : Heap} {locs : List Loc} {cells slots : Nat} {ls : Array Slot} {B B2 : Int} (C : LC p l s m c b Ln xs D cI cB cS cJ K) (hi1 : vp_in (x4 + 1) Ln) (hkl : KL B L M) (hB : B + 1000 ≤ B2) (hL : B2 ≤ 1000000000) (hc : cells + 1 ≤ 601024) (hs : slots + 6 ≤ 7293034) (hP : va_P D vwCl (lawW cI cB cS cJ ao aL am o L M) H) (hD : va_D (fun q : Nat => s.heap.size ≤ q) (lawW cI cB cS cJ ao aL am o L M)) (hS : va_S (fun q : Nat => s.heap.size ≤ q) s.heap H locs) (hl : lv_has ls 9 (lv5 b aL am ao x4)) (kk : LK p l e s m below meth c b D cI cB cS cJ aL am ao x4 B2 cells slots Q) : W p l e room_1 s m #[Value.ref b] below meth c H locs cells slots Q (F0 m 1211 ls []) := by
  obtain ⟨hx, hb, hml, hown, hts, hXX, hbl, EW, hfl, hKs, hSt⟩ := C
  have EX := EW.1
  have E := EX.1
  have hK := (E.2 s hKs).1
  have hA : ∀ q : Nat, s.heap.size ≤ q → (fun q : Nat => s.heap.size ≤ q) q := fun _ h => h
  have hbA : ¬ (fun q : Nat => s.heap.size ≤ q) b := Nat.not_le.mpr hbl
  have hX : CallFix p m c cL_law 9 s _ wsL_law RL := ⟨hx, hb, hml, hown, hts⟩
  have hl : lv_has ls 9 [(0, .ref b), (1, .ref (aL 7 0)), (2, .ref (am 0)), (3, .ref ao), (4, .int x4)] := hl
  obtain ⟨a1, ea1⟩ : ∃ y, y = xs (x4 + 1).toNatClampNeg := ⟨_, rfl⟩
  refine lv_aload_n hx hb dL_law_1211 rfl (lv_at hl 1 rfl) ?_
  refine lv_aload_n hx hb dL_law_1212 rfl (lv_at hl 0 rfl) ?_
  refine lv_iload hx hb dL_law_1213 (lv_at hl 4 rfl) ?_
  refine lv_iconst (v := 1) hx hb dL_law_1215 (by decide) ?_
  refine lv_iadd hx hb dL_law_1216 ?_
  refine va_sld hx hb hXX hbl hbA hS hi1 dL_law_1217 ?_
  refine kw_top (v := .int a1) (by rw [ea1]) ?_
  refine lv_aload_n hx hb dL_law_1218 rfl (lv_at hl 3 rfl) ?_
  obtain ⟨hE, hkc, hr, hKL⟩ := q_spare (B' := B2) hkl (by omega) a1
  have hM := cx3_spare EX hfl aL L a1
  have hm4 := cx4_spare (l := l) E am M a1
  have hT : (fx3_spare L a1).1 ≠ 0 → L = L := fun _ => rfl
  generalize (fx3_spare L a1).1 = ec at hE hkc hr hM hT
  generalize (fx3_spare L a1).2 = r at hr hM
  generalize fx4_spare M a1 = y at hkc hr hKL hm4
  refine kcsY (As := [.ref (aL 7 0), .int a1, .ref ao]) (rest := []) E.1 (cw_spare EW aL L L ao o a1 hM hE hT) hX (vx_cwSW 3 hts gL_law_L_spare rfl rfl rfl hdL_spare ⟨Nat.le_of_ble_eq_true rfl, Nat.le_of_ble_eq_true rfl⟩) hKs hP hD hS hA hSt [] (mdW cI am M) (law_ls cI cB cS cJ ao aL am o L M) (law_ls cI cB cS cJ ao aL am (if ec = 0 then va_up o 0 r.toInt64 else o) L M).symm rfl rfl hl.1 (Nat.le_of_ble_eq_true rfl) dL_law_1219 ⟨hc, hs⟩ (fun H locs hP hD hS => ?_)
  refine lv_istore (lv' := (5, .int (kc 1 1 ec)) :: [(0, .ref b), (1, .ref (aL 7 0)), (2, .ref (am 0)), (3, .ref ao), (4, .int x4)]) hx hb dL_law_1222 hl (by decide) rfl (fun ls hl => ?_)
  refine lv_aload_n hx hb dL_law_1224 rfl (lv_at hl 3 rfl) ?_
  refine lv_aload_n hx hb dL_law_1225 rfl (lv_at hl 1 rfl) ?_
  refine lv_iload hx hb dL_law_1226 (lv_at hl 5 rfl) ?_
  refine lv_iconst (v := 1) hx hb dL_law_1228 (by decide) ?_
  refine lv_iadd hx hb dL_law_1229 ?_
  refine va_sld hx hb hXX hbl hbA hS hi1 dL_law_1230 ?_
  refine kw_top (v := .int a1) (by rw [ea1]) ?_
  refine kcI (ci := 4) (q0 := 0) (As := [.int a1]) (rest := []) E.1 hm4 hX (cwV 1 hts gL_law_X4_spare rfl rfl rfl hdX4_spare ⟨Nat.le_of_ble_eq_true rfl, Nat.le_of_ble_eq_true rfl⟩) hKs hK hP hD hS hA _ _ (law_md cI cB cS cJ ao aL am (if ec = 0 then va_up o 0 r.toInt64 else o) L M) (law_md cI cB cS cJ ao aL am (if ec = 0 then va_up o 0 r.toInt64 else o) L y.2).symm rfl rfl rfl rfl hl.1 (Nat.le_of_ble_eq_true rfl) dL_law_1231 ⟨hc, hs⟩ (fun H locs hP hD hS => ?_)
  refine lv_istore (lv' := (6, .int y.1) :: [(5, .int (kc 1 1 ec)), (0, .ref b), (1, .ref (aL 7 0)), (2, .ref (am 0)), (3, .ref ao), (4, .int x4)]) hx hb dL_law_1234 hl (by decide) rfl (fun ls hl => ?_)
  refine lv_aload_n hx hb dL_law_1236 rfl (lv_at hl 4 rfl) ?_
  refine kcI (ci := 4) (q0 := 0) (As := []) (rest := []) E.1 (cx4_thrown (l := l) E am y.2) hX (cwV 0 hts gL_law_X4_thrown rfl rfl rfl hdX4_thrown ⟨Nat.le_of_ble_eq_true rfl, Nat.le_of_ble_eq_true rfl⟩) hKs hK hP hD hS hA _ _ (law_md cI cB cS cJ ao aL am (if ec = 0 then va_up o 0 r.toInt64 else o) L y.2) (law_md cI cB cS cJ ao aL am (if ec = 0 then va_up o 0 r.toInt64 else o) L y.2).symm rfl rfl rfl rfl hl.1 (Nat.le_of_ble_eq_true rfl) dL_law_1237 ⟨hc, hs⟩ (fun H locs hP hD hS => ?_)
  refine lv_iload hx hb dL_law_1240 (lv_at hl 1 rfl) ?_
  refine lv_icmp_eq (tgt := 1247) hx hb dL_law_1242 (by decide) (fun _ => ?_) (fun h9 => absurd (show fx4_thrown y.2 = (kc 1 1 ec) from hkc.symm) h9)
  refine lv_iload hx hb dL_law_1247 (lv_at hl 1 rfl) ?_
  refine lv_if_ne (tgt := 1264) hx hb dL_law_1249 (by decide) (fun _ => ?_) (fun h9 => ?_)
  · refine lv_goto (tgt := 1476) hx hb dL_law_1264 (by decide) ?_
    exact kk _ _ _ hKL _ _ hP hD hS _ (lv_sub hl [2, 3, 4, 5, 6] rfl)
  · have he : ec = 0 := kc0 (by decide) (by decide) hE h9
    have hr2 := hr he
    rw [if_pos he] at hP hD
    subst hr2
    refine lv_aload_n hx hb dL_law_1252 rfl (lv_at hl 5 rfl) ?_
    refine lv_iconst (v := 0) hx hb dL_law_1253 (by decide) ?_
    refine va_lald hx hb hK hP 0 3 rfl rfl (by unfold vp_in; decide) dL_law_1254 ?_
    refine kw_top (v := .long y.1.toInt64) (by rw [show (0 : Int32).toNatClampNeg = 0 from rfl, va_up_self]) ?_
    refine lv_iload hx hb dL_law_1255 (lv_at hl 0 rfl) ?_
    refine lv_i2l (v := y.1.toInt64) hx hb dL_law_1257 rfl ?_
    refine W.lcmp hx hb dL_law_1258 ?_
    refine lv_if_eq (tgt := 1264) hx hb dL_law_1259 (by decide) (fun _ => ?_) (fun h8 => absurd (klcmp _) h8)
    refine lv_goto (tgt := 1476) hx hb dL_law_1264 (by decide) ?_
    exact kk _ _ _ hKL _ _ hP hD hS _ (lv_sub hl [2, 3, 4, 5, 6] rfl)

set_option maxHeartbeats 4000000 in
set_option maxRecDepth 100000 in
theorem law_fastest {p : Program} {l : Launch} {e : Env} {s : State} {m : MethodId} {below : List Frame} {meth : Method} {c : Code} {b Ln : Nat} {xs : Nat → Int32} {D : va_G} {cI cB cS cJ : ClassId} {K : State → Prop} {Q : State → Prop} {aL : Nat → Nat → Nat} {am : Nat → Nat} {ao : Nat} {x4 : Int32} {o : Nat → Int64} {L : Nat → St} {M : Md} {H : Heap} {locs : List Loc} {cells slots : Nat} {ls : Array Slot} {B B2 : Int} (C : LC p l s m c b Ln xs D cI cB cS cJ K)  (hkl : KL B L M) (hB : B + 1000 ≤ B2) (hL : B2 ≤ 1000000000) (hc : cells + 1 ≤ 601024) (hs : slots + 6 ≤ 7293034) (hP : va_P D vwCl (lawW cI cB cS cJ ao aL am o L M) H) (hD : va_D (fun q : Nat => s.heap.size ≤ q) (lawW cI cB cS cJ ao aL am o L M)) (hS : va_S (fun q : Nat => s.heap.size ≤ q) s.heap H locs) (hl : lv_has ls 9 (lv5 b aL am ao x4)) (kk : LK p l e s m below meth c b D cI cB cS cJ aL am ao x4 B2 cells slots Q) : W p l e room_1 s m #[Value.ref b] below meth c H locs cells slots Q (F0 m 1267 ls []) := by
  obtain ⟨hx, hb, hml, hown, hts, hXX, hbl, EW, hfl, hKs, hSt⟩ := C
  have EX := EW.1
  have E := EX.1
  have hK := (E.2 s hKs).1
  have hA : ∀ q : Nat, s.heap.size ≤ q → (fun q : Nat => s.heap.size ≤ q) q := fun _ h => h
  have hbA : ¬ (fun q : Nat => s.heap.size ≤ q) b := Nat.not_le.mpr hbl
  have hX : CallFix p m c cL_law 9 s _ wsL_law RL := ⟨hx, hb, hml, hown, hts⟩
  have hl : lv_has ls 9 [(0, .ref b), (1, .ref (aL 7 0)), (2, .ref (am 0)), (3, .ref ao), (4, .int x4)] := hl
  refine lv_aload_n hx hb dL_law_1267 rfl (lv_at hl 1 rfl) ?_
  obtain ⟨hs3, hs4, he0, heq, hKL⟩ := q_fastest (B' := B2) hkl (by omega)
  refine kcX (ci := 3) (q0 := 0) (As := []) (rest := []) E.1 (cx3_fastest EX hfl aL L hs3) hX (cwV 0 hts gL_law_X3_fastest rfl rfl rfl hdX3_fastest ⟨Nat.le_of_ble_eq_true rfl, Nat.le_of_ble_eq_true rfl⟩) hKs hK hP hD hS hA hSt (outW cJ ao o) (mdW cI am M) rfl rfl rfl rfl rfl rfl hl.1 (Nat.le_of_ble_eq_true rfl) dL_law_1268 ⟨hc, hs⟩ (fun h9 => absurd he0 h9) (fun _ H locs hP hD hS => ?_)
  have hP : va_P D vwCl (lawW cI cB cS cJ ao aL am o L M) H := hP
  have hD : va_D (fun q : Nat => s.heap.size ≤ q) (lawW cI cB cS cJ ao aL am o L M) := hD
  refine lv_aload_n hx hb dL_law_1271 rfl (lv_at hl 2 rfl) ?_
  refine kcI (ci := 4) (q0 := 0) (As := []) (rest := [.int ((fx3_fastest L).2)]) E.1 (cx4_fastest E am M  hs4) hX (cwV 0 hts gL_law_X4_fastest rfl rfl rfl hdX4_fastest ⟨Nat.le_of_ble_eq_true rfl, Nat.le_of_ble_eq_true rfl⟩) hKs hK hP hD hS hA _ _ (law_md cI cB cS cJ ao aL am o L M) (law_md cI cB cS cJ ao aL am o L (fx4_fastest M).2).symm rfl rfl rfl rfl hl.1 (Nat.le_of_ble_eq_true rfl) dL_law_1272 ⟨hc, hs⟩ (fun H locs hP hD hS => ?_)
  refine lv_icmp_eq (tgt := 1476) hx hb dL_law_1275 (by decide) (fun _ => ?_) (fun h9 => absurd heq h9)
  exact kk _ _ _ hKL _ _ hP hD hS _ hl

set_option maxHeartbeats 4000000 in
set_option maxRecDepth 100000 in
theorem law_fate {p : Program} {l : Launch} {e : Env} {s : State} {m : MethodId} {below : List Frame} {meth : Method} {c : Code} {b Ln : Nat} {xs : Nat → Int32} {D : va_G} {cI cB cS cJ : ClassId} {K : State → Prop} {Q : State → Prop} {aL : Nat → Nat → Nat} {am : Nat → Nat} {ao : Nat} {x4 : Int32} {o : Nat → Int64} {L : Nat → St} {M : Md} {H : Heap} {locs : List Loc} {cells slots : Nat} {ls : Array Slot} {B B2 : Int} (C : LC p l s m c b Ln xs D cI cB cS cJ K) (hi1 : vp_in (x4 + 1) Ln) (hkl : KL B L M) (hB : B + 1000 ≤ B2) (hL : B2 ≤ 1000000000) (hc : cells + 1 ≤ 601024) (hs : slots + 6 ≤ 7293034) (hP : va_P D vwCl (lawW cI cB cS cJ ao aL am o L M) H) (hD : va_D (fun q : Nat => s.heap.size ≤ q) (lawW cI cB cS cJ ao aL am o L M)) (hS : va_S (fun q : Nat => s.heap.size ≤ q) s.heap H locs) (hl : lv_has ls 9 (lv5 b aL am ao x4)) (kk : LK p l e s m below meth c b D cI cB cS cJ aL am ao x4 B2 cells slots Q) : W p l e room_1 s m #[Value.ref b] below meth c H locs cells slots Q (F0 m 1280 ls []) := by
  obtain ⟨hx, hb, hml, hown, hts, hXX, hbl, EW, hfl, hKs, hSt⟩ := C
  have EX := EW.1
  have E := EX.1
  have hK := (E.2 s hKs).1
  have hA : ∀ q : Nat, s.heap.size ≤ q → (fun q : Nat => s.heap.size ≤ q) q := fun _ h => h
  have hbA : ¬ (fun q : Nat => s.heap.size ≤ q) b := Nat.not_le.mpr hbl
  have hX : CallFix p m c cL_law 9 s _ wsL_law RL := ⟨hx, hb, hml, hown, hts⟩
  have hl : lv_has ls 9 [(0, .ref b), (1, .ref (aL 7 0)), (2, .ref (am 0)), (3, .ref ao), (4, .int x4)] := hl
  obtain ⟨a1, ea1⟩ : ∃ y, y = xs (x4 + 1).toNatClampNeg := ⟨_, rfl⟩
  refine lv_aload_n hx hb dL_law_1280 rfl (lv_at hl 1 rfl) ?_
  refine lv_aload_n hx hb dL_law_1281 rfl (lv_at hl 0 rfl) ?_
  refine lv_iload hx hb dL_law_1282 (lv_at hl 4 rfl) ?_
  refine lv_iconst (v := 1) hx hb dL_law_1284 (by decide) ?_
  refine lv_iadd hx hb dL_law_1285 ?_
  refine va_sld hx hb hXX hbl hbA hS hi1 dL_law_1286 ?_
  refine kw_top (v := .int a1) (by rw [ea1]) ?_
  refine lv_aload_n hx hb dL_law_1287 rfl (lv_at hl 3 rfl) ?_
  obtain ⟨hs3, hs4, hE, hkc, hr, hKL⟩ := q_fate (B' := B2) hkl (by omega) hL a1
  have hM := cx3_fate EX hfl aL L a1 hs3
  have hm4 := cx4_fate (l := l) E am M a1 hs4
  have hT := t3_fate L a1
  unfold T3 at hT
  generalize (fx3_fate L a1).1 = ec at hE hkc hr hM hT
  generalize (fx3_fate L a1).2.1 = r at hr hM
  generalize (fx3_fate L a1).2.2 = L2 at hKL hM hT
  generalize fx4_fate M a1 = y at hkc hr hKL hm4
  refine kcsY (As := [.ref (aL 7 0), .int a1, .ref ao]) (rest := []) E.1 (cw_fate EW aL L L2 ao o a1 hM hE hT) hX (vx_cwSW 3 hts gL_law_L_fate rfl rfl rfl hdL_fate ⟨Nat.le_of_ble_eq_true rfl, Nat.le_of_ble_eq_true rfl⟩) hKs hP hD hS hA hSt [] (mdW cI am M) (law_ls cI cB cS cJ ao aL am o L M) (law_ls cI cB cS cJ ao aL am (if ec = 0 then va_up o 0 r.toInt64 else o) L2 M).symm rfl rfl hl.1 (Nat.le_of_ble_eq_true rfl) dL_law_1288 ⟨hc, hs⟩ (fun H locs hP hD hS => ?_)
  refine lv_istore (lv' := (5, .int (kc 3 3 ec)) :: [(0, .ref b), (1, .ref (aL 7 0)), (2, .ref (am 0)), (3, .ref ao), (4, .int x4)]) hx hb dL_law_1291 hl (by decide) rfl (fun ls hl => ?_)
  refine lv_aload_n hx hb dL_law_1293 rfl (lv_at hl 3 rfl) ?_
  refine lv_aload_n hx hb dL_law_1294 rfl (lv_at hl 1 rfl) ?_
  refine lv_iload hx hb dL_law_1295 (lv_at hl 5 rfl) ?_
  refine lv_iconst (v := 1) hx hb dL_law_1297 (by decide) ?_
  refine lv_iadd hx hb dL_law_1298 ?_
  refine va_sld hx hb hXX hbl hbA hS hi1 dL_law_1299 ?_
  refine kw_top (v := .int a1) (by rw [ea1]) ?_
  refine kcI (ci := 4) (q0 := 0) (As := [.int a1]) (rest := []) E.1 hm4 hX (cwV 1 hts gL_law_X4_fate rfl rfl rfl hdX4_fate ⟨Nat.le_of_ble_eq_true rfl, Nat.le_of_ble_eq_true rfl⟩) hKs hK hP hD hS hA _ _ (law_md cI cB cS cJ ao aL am (if ec = 0 then va_up o 0 r.toInt64 else o) L2 M) (law_md cI cB cS cJ ao aL am (if ec = 0 then va_up o 0 r.toInt64 else o) L2 y.2).symm rfl rfl rfl rfl hl.1 (Nat.le_of_ble_eq_true rfl) dL_law_1300 ⟨hc, hs⟩ (fun H locs hP hD hS => ?_)
  refine lv_istore (lv' := (6, .int y.1) :: [(5, .int (kc 3 3 ec)), (0, .ref b), (1, .ref (aL 7 0)), (2, .ref (am 0)), (3, .ref ao), (4, .int x4)]) hx hb dL_law_1303 hl (by decide) rfl (fun ls hl => ?_)
  refine lv_aload_n hx hb dL_law_1305 rfl (lv_at hl 4 rfl) ?_
  refine kcI (ci := 4) (q0 := 0) (As := []) (rest := []) E.1 (cx4_thrown (l := l) E am y.2) hX (cwV 0 hts gL_law_X4_thrown rfl rfl rfl hdX4_thrown ⟨Nat.le_of_ble_eq_true rfl, Nat.le_of_ble_eq_true rfl⟩) hKs hK hP hD hS hA _ _ (law_md cI cB cS cJ ao aL am (if ec = 0 then va_up o 0 r.toInt64 else o) L2 y.2) (law_md cI cB cS cJ ao aL am (if ec = 0 then va_up o 0 r.toInt64 else o) L2 y.2).symm rfl rfl rfl rfl hl.1 (Nat.le_of_ble_eq_true rfl) dL_law_1306 ⟨hc, hs⟩ (fun H locs hP hD hS => ?_)
  refine lv_iload hx hb dL_law_1309 (lv_at hl 1 rfl) ?_
  refine lv_icmp_eq (tgt := 1316) hx hb dL_law_1311 (by decide) (fun _ => ?_) (fun h9 => absurd (show fx4_thrown y.2 = (kc 3 3 ec) from hkc.symm) h9)
  refine lv_iload hx hb dL_law_1316 (lv_at hl 1 rfl) ?_
  refine lv_if_ne (tgt := 1333) hx hb dL_law_1318 (by decide) (fun _ => ?_) (fun h9 => ?_)
  · refine lv_goto (tgt := 1476) hx hb dL_law_1333 (by decide) ?_
    exact kk _ _ _ hKL _ _ hP hD hS _ (lv_sub hl [2, 3, 4, 5, 6] rfl)
  · have he : ec = 0 := kc0 (by decide) (by decide) hE h9
    have hr2 := hr he
    rw [if_pos he] at hP hD
    subst hr2
    refine lv_aload_n hx hb dL_law_1321 rfl (lv_at hl 5 rfl) ?_
    refine lv_iconst (v := 0) hx hb dL_law_1322 (by decide) ?_
    refine va_lald hx hb hK hP 0 3 rfl rfl (by unfold vp_in; decide) dL_law_1323 ?_
    refine kw_top (v := .long y.1.toInt64) (by rw [show (0 : Int32).toNatClampNeg = 0 from rfl, va_up_self]) ?_
    refine lv_iload hx hb dL_law_1324 (lv_at hl 0 rfl) ?_
    refine lv_i2l (v := y.1.toInt64) hx hb dL_law_1326 rfl ?_
    refine W.lcmp hx hb dL_law_1327 ?_
    refine lv_if_eq (tgt := 1333) hx hb dL_law_1328 (by decide) (fun _ => ?_) (fun h8 => absurd (klcmp _) h8)
    refine lv_goto (tgt := 1476) hx hb dL_law_1333 (by decide) ?_
    exact kk _ _ _ hKL _ _ hP hD hS _ (lv_sub hl [2, 3, 4, 5, 6] rfl)

set_option maxHeartbeats 4000000 in
set_option maxRecDepth 100000 in
theorem law_append {p : Program} {l : Launch} {e : Env} {s : State} {m : MethodId} {below : List Frame} {meth : Method} {c : Code} {b Ln : Nat} {xs : Nat → Int32} {D : va_G} {cI cB cS cJ : ClassId} {K : State → Prop} {Q : State → Prop} {aL : Nat → Nat → Nat} {am : Nat → Nat} {ao : Nat} {x4 : Int32} {o : Nat → Int64} {L : Nat → St} {M : Md} {H : Heap} {locs : List Loc} {cells slots : Nat} {ls : Array Slot} {B B2 : Int} (C : LC p l s m c b Ln xs D cI cB cS cJ K) (hi1 : vp_in (x4 + 1) Ln) (hkl : KL B L M) (hB : B + 1000 ≤ B2) (hL : B2 ≤ 1000000000) (hc : cells + 1 ≤ 601024) (hs : slots + 6 ≤ 7293034) (hP : va_P D vwCl (lawW cI cB cS cJ ao aL am o L M) H) (hD : va_D (fun q : Nat => s.heap.size ≤ q) (lawW cI cB cS cJ ao aL am o L M)) (hS : va_S (fun q : Nat => s.heap.size ≤ q) s.heap H locs) (hl : lv_has ls 9 (lv5 b aL am ao x4)) (kk : LK p l e s m below meth c b D cI cB cS cJ aL am ao x4 B2 cells slots Q) : W p l e room_1 s m #[Value.ref b] below meth c H locs cells slots Q (F0 m 1336 ls []) := by
  obtain ⟨hx, hb, hml, hown, hts, hXX, hbl, EW, hfl, hKs, hSt⟩ := C
  have EX := EW.1
  have E := EX.1
  have hK := (E.2 s hKs).1
  have hA : ∀ q : Nat, s.heap.size ≤ q → (fun q : Nat => s.heap.size ≤ q) q := fun _ h => h
  have hbA : ¬ (fun q : Nat => s.heap.size ≤ q) b := Nat.not_le.mpr hbl
  have hX : CallFix p m c cL_law 9 s _ wsL_law RL := ⟨hx, hb, hml, hown, hts⟩
  have hl : lv_has ls 9 [(0, .ref b), (1, .ref (aL 7 0)), (2, .ref (am 0)), (3, .ref ao), (4, .int x4)] := hl
  obtain ⟨a1, ea1⟩ : ∃ y, y = xs (x4 + 1).toNatClampNeg := ⟨_, rfl⟩
  refine lv_aload_n hx hb dL_law_1336 rfl (lv_at hl 1 rfl) ?_
  refine lv_aload_n hx hb dL_law_1337 rfl (lv_at hl 0 rfl) ?_
  refine lv_iload hx hb dL_law_1338 (lv_at hl 4 rfl) ?_
  refine lv_iconst (v := 1) hx hb dL_law_1340 (by decide) ?_
  refine lv_iadd hx hb dL_law_1341 ?_
  refine va_sld hx hb hXX hbl hbA hS hi1 dL_law_1342 ?_
  refine kw_top (v := .int a1) (by rw [ea1]) ?_
  refine lv_aload_n hx hb dL_law_1343 rfl (lv_at hl 3 rfl) ?_
  obtain ⟨hs3, hs4, hE, hkc, hr, hKL⟩ := q_append (B' := B2) hkl (by omega) a1
  have hM := cx3_append EX hfl aL L a1 hs3
  have hm4 := cx4_append (l := l) E am M a1 hs4
  have hT := t3_append L a1
  unfold T3 at hT
  generalize (fx3_append L a1).1 = ec at hE hkc hr hM hT
  generalize (fx3_append L a1).2.1 = r at hr hM
  generalize (fx3_append L a1).2.2 = L2 at hKL hM hT
  generalize fx4_append M a1 = y at hkc hr hKL hm4
  refine kcsY (As := [.ref (aL 7 0), .int a1, .ref ao]) (rest := []) E.1 (cw_append EW aL L L2 ao o a1 hM hE hT) hX (vx_cwSW 3 hts gL_law_L_append rfl rfl rfl hdL_append ⟨Nat.le_of_ble_eq_true rfl, Nat.le_of_ble_eq_true rfl⟩) hKs hP hD hS hA hSt [] (mdW cI am M) (law_ls cI cB cS cJ ao aL am o L M) (law_ls cI cB cS cJ ao aL am (if ec = 0 then va_up o 0 r.toInt64 else o) L2 M).symm rfl rfl hl.1 (Nat.le_of_ble_eq_true rfl) dL_law_1344 ⟨hc, hs⟩ (fun H locs hP hD hS => ?_)
  refine lv_istore (lv' := (5, .int (kc 1 2 ec)) :: [(0, .ref b), (1, .ref (aL 7 0)), (2, .ref (am 0)), (3, .ref ao), (4, .int x4)]) hx hb dL_law_1347 hl (by decide) rfl (fun ls hl => ?_)
  refine lv_aload_n hx hb dL_law_1349 rfl (lv_at hl 3 rfl) ?_
  refine lv_aload_n hx hb dL_law_1350 rfl (lv_at hl 1 rfl) ?_
  refine lv_iload hx hb dL_law_1351 (lv_at hl 5 rfl) ?_
  refine lv_iconst (v := 1) hx hb dL_law_1353 (by decide) ?_
  refine lv_iadd hx hb dL_law_1354 ?_
  refine va_sld hx hb hXX hbl hbA hS hi1 dL_law_1355 ?_
  refine kw_top (v := .int a1) (by rw [ea1]) ?_
  refine kcI (ci := 4) (q0 := 0) (As := [.int a1]) (rest := []) E.1 hm4 hX (cwV 1 hts gL_law_X4_append rfl rfl rfl hdX4_append ⟨Nat.le_of_ble_eq_true rfl, Nat.le_of_ble_eq_true rfl⟩) hKs hK hP hD hS hA _ _ (law_md cI cB cS cJ ao aL am (if ec = 0 then va_up o 0 r.toInt64 else o) L2 M) (law_md cI cB cS cJ ao aL am (if ec = 0 then va_up o 0 r.toInt64 else o) L2 y.2).symm rfl rfl rfl rfl hl.1 (Nat.le_of_ble_eq_true rfl) dL_law_1356 ⟨hc, hs⟩ (fun H locs hP hD hS => ?_)
  refine lv_istore (lv' := (6, .int y.1) :: [(5, .int (kc 1 2 ec)), (0, .ref b), (1, .ref (aL 7 0)), (2, .ref (am 0)), (3, .ref ao), (4, .int x4)]) hx hb dL_law_1359 hl (by decide) rfl (fun ls hl => ?_)
  refine lv_aload_n hx hb dL_law_1361 rfl (lv_at hl 4 rfl) ?_
  refine kcI (ci := 4) (q0 := 0) (As := []) (rest := []) E.1 (cx4_thrown (l := l) E am y.2) hX (cwV 0 hts gL_law_X4_thrown rfl rfl rfl hdX4_thrown ⟨Nat.le_of_ble_eq_true rfl, Nat.le_of_ble_eq_true rfl⟩) hKs hK hP hD hS hA _ _ (law_md cI cB cS cJ ao aL am (if ec = 0 then va_up o 0 r.toInt64 else o) L2 y.2) (law_md cI cB cS cJ ao aL am (if ec = 0 then va_up o 0 r.toInt64 else o) L2 y.2).symm rfl rfl rfl rfl hl.1 (Nat.le_of_ble_eq_true rfl) dL_law_1362 ⟨hc, hs⟩ (fun H locs hP hD hS => ?_)
  refine lv_iload hx hb dL_law_1365 (lv_at hl 1 rfl) ?_
  refine lv_icmp_eq (tgt := 1372) hx hb dL_law_1367 (by decide) (fun _ => ?_) (fun h9 => absurd (show fx4_thrown y.2 = (kc 1 2 ec) from hkc.symm) h9)
  refine lv_iload hx hb dL_law_1372 (lv_at hl 1 rfl) ?_
  refine lv_if_ne (tgt := 1389) hx hb dL_law_1374 (by decide) (fun _ => ?_) (fun h9 => ?_)
  · refine lv_goto (tgt := 1476) hx hb dL_law_1389 (by decide) ?_
    exact kk _ _ _ hKL _ _ hP hD hS _ (lv_sub hl [2, 3, 4, 5, 6] rfl)
  · have he : ec = 0 := kc0 (by decide) (by decide) hE h9
    have hr2 := hr he
    rw [if_pos he] at hP hD
    subst hr2
    refine lv_aload_n hx hb dL_law_1377 rfl (lv_at hl 5 rfl) ?_
    refine lv_iconst (v := 0) hx hb dL_law_1378 (by decide) ?_
    refine va_lald hx hb hK hP 0 3 rfl rfl (by unfold vp_in; decide) dL_law_1379 ?_
    refine kw_top (v := .long y.1.toInt64) (by rw [show (0 : Int32).toNatClampNeg = 0 from rfl, va_up_self]) ?_
    refine lv_iload hx hb dL_law_1380 (lv_at hl 0 rfl) ?_
    refine lv_i2l (v := y.1.toInt64) hx hb dL_law_1382 rfl ?_
    refine W.lcmp hx hb dL_law_1383 ?_
    refine lv_if_eq (tgt := 1389) hx hb dL_law_1384 (by decide) (fun _ => ?_) (fun h8 => absurd (klcmp _) h8)
    refine lv_goto (tgt := 1476) hx hb dL_law_1389 (by decide) ?_
    exact kk _ _ _ hKL _ _ hP hD hS _ (lv_sub hl [2, 3, 4, 5, 6] rfl)

set_option maxHeartbeats 4000000 in
set_option maxRecDepth 100000 in
theorem law_clearText {p : Program} {l : Launch} {e : Env} {s : State} {m : MethodId} {below : List Frame} {meth : Method} {c : Code} {b Ln : Nat} {xs : Nat → Int32} {D : va_G} {cI cB cS cJ : ClassId} {K : State → Prop} {Q : State → Prop} {aL : Nat → Nat → Nat} {am : Nat → Nat} {ao : Nat} {x4 : Int32} {o : Nat → Int64} {L : Nat → St} {M : Md} {H : Heap} {locs : List Loc} {cells slots : Nat} {ls : Array Slot} {B B2 : Int} (C : LC p l s m c b Ln xs D cI cB cS cJ K)  (hkl : KL B L M) (hB : B + 1000 ≤ B2) (hL : B2 ≤ 1000000000) (hc : cells + 1 ≤ 601024) (hs : slots + 6 ≤ 7293034) (hP : va_P D vwCl (lawW cI cB cS cJ ao aL am o L M) H) (hD : va_D (fun q : Nat => s.heap.size ≤ q) (lawW cI cB cS cJ ao aL am o L M)) (hS : va_S (fun q : Nat => s.heap.size ≤ q) s.heap H locs) (hl : lv_has ls 9 (lv5 b aL am ao x4)) (kk : LK p l e s m below meth c b D cI cB cS cJ aL am ao x4 B2 cells slots Q) : W p l e room_1 s m #[Value.ref b] below meth c H locs cells slots Q (F0 m 1392 ls []) := by
  obtain ⟨hx, hb, hml, hown, hts, hXX, hbl, EW, hfl, hKs, hSt⟩ := C
  have EX := EW.1
  have E := EX.1
  have hK := (E.2 s hKs).1
  have hA : ∀ q : Nat, s.heap.size ≤ q → (fun q : Nat => s.heap.size ≤ q) q := fun _ h => h
  have hbA : ¬ (fun q : Nat => s.heap.size ≤ q) b := Nat.not_le.mpr hbl
  have hX : CallFix p m c cL_law 9 s _ wsL_law RL := ⟨hx, hb, hml, hown, hts⟩
  have hl : lv_has ls 9 [(0, .ref b), (1, .ref (aL 7 0)), (2, .ref (am 0)), (3, .ref ao), (4, .int x4)] := hl
  refine lv_aload_n hx hb dL_law_1392 rfl (lv_at hl 1 rfl) ?_
  obtain ⟨heq, hKL⟩ := q_clearText (B' := B2) hkl (by omega)
  refine kcI (ci := 3) (q0 := 0) (As := []) (rest := []) E.1 (cx3_clearText EX aL L ) hX (cwV 0 hts gL_law_X3_clearText rfl rfl rfl hdX3_clearText ⟨Nat.le_of_ble_eq_true rfl, Nat.le_of_ble_eq_true rfl⟩) hKs hK hP hD hS hA (outW cJ ao o) (mdW cI am M) rfl rfl rfl rfl rfl rfl hl.1 (Nat.le_of_ble_eq_true rfl) dL_law_1393 ⟨Nat.le_of_succ_le hc, Nat.le_trans (Nat.le_add_right _ _) hs⟩ (fun H locs hP hD hS => ?_)
  have hP : va_P D vwCl (lawW cI cB cS cJ ao aL am o (fx3_clearText L).2 M) H := hP
  have hD : va_D (fun q : Nat => s.heap.size ≤ q) (lawW cI cB cS cJ ao aL am o (fx3_clearText L).2 M) := hD
  refine lv_aload_n hx hb dL_law_1396 rfl (lv_at hl 2 rfl) ?_
  refine kcI (ci := 4) (q0 := 0) (As := []) (rest := [.int ((fx3_clearText L).1)]) E.1 (cx4_clearText E am M ) hX (cwV 0 hts gL_law_X4_clearText rfl rfl rfl hdX4_clearText ⟨Nat.le_of_ble_eq_true rfl, Nat.le_of_ble_eq_true rfl⟩) hKs hK hP hD hS hA _ _ (law_md cI cB cS cJ ao aL am o (fx3_clearText L).2 M) (law_md cI cB cS cJ ao aL am o (fx3_clearText L).2 (fx4_clearText M).2).symm rfl rfl rfl rfl hl.1 (Nat.le_of_ble_eq_true rfl) dL_law_1397 ⟨Nat.le_of_succ_le hc, Nat.le_trans (Nat.le_add_right _ _) hs⟩ (fun H locs hP hD hS => ?_)
  refine W.widen (k := cells + 1) (n := slots + 6) (Nat.le_succ _) (Nat.le_add_right _ _) ?_
  refine lv_icmp_eq (tgt := 1476) hx hb dL_law_1400 (by decide) (fun _ => ?_) (fun h9 => absurd heq h9)
  exact kk _ _ _ hKL _ _ hP hD hS _ hl

set_option maxHeartbeats 4000000 in
set_option maxRecDepth 100000 in
theorem law_carryOut {p : Program} {l : Launch} {e : Env} {s : State} {m : MethodId} {below : List Frame} {meth : Method} {c : Code} {b Ln : Nat} {xs : Nat → Int32} {D : va_G} {cI cB cS cJ : ClassId} {K : State → Prop} {Q : State → Prop} {aL : Nat → Nat → Nat} {am : Nat → Nat} {ao : Nat} {x4 : Int32} {o : Nat → Int64} {L : Nat → St} {M : Md} {H : Heap} {locs : List Loc} {cells slots : Nat} {ls : Array Slot} {B B2 : Int} (C : LC p l s m c b Ln xs D cI cB cS cJ K)  (hkl : KL B L M) (hB : B + 1000 ≤ B2) (hL : B2 ≤ 1000000000) (hc : cells + 1 ≤ 601024) (hs : slots + 6 ≤ 7293034) (hP : va_P D vwCl (lawW cI cB cS cJ ao aL am o L M) H) (hD : va_D (fun q : Nat => s.heap.size ≤ q) (lawW cI cB cS cJ ao aL am o L M)) (hS : va_S (fun q : Nat => s.heap.size ≤ q) s.heap H locs) (hl : lv_has ls 9 (lv5 b aL am ao x4)) (kk : LK p l e s m below meth c b D cI cB cS cJ aL am ao x4 B2 cells slots Q) : W p l e room_1 s m #[Value.ref b] below meth c H locs cells slots Q (F0 m 1405 ls []) := by
  obtain ⟨hx, hb, hml, hown, hts, hXX, hbl, EW, hfl, hKs, hSt⟩ := C
  have EX := EW.1
  have E := EX.1
  have hK := (E.2 s hKs).1
  have hA : ∀ q : Nat, s.heap.size ≤ q → (fun q : Nat => s.heap.size ≤ q) q := fun _ h => h
  have hbA : ¬ (fun q : Nat => s.heap.size ≤ q) b := Nat.not_le.mpr hbl
  have hX : CallFix p m c cL_law 9 s _ wsL_law RL := ⟨hx, hb, hml, hown, hts⟩
  have hl : lv_has ls 9 [(0, .ref b), (1, .ref (aL 7 0)), (2, .ref (am 0)), (3, .ref ao), (4, .int x4)] := hl
  refine lv_aload_n hx hb dL_law_1405 rfl (lv_at hl 1 rfl) ?_
  obtain ⟨hs3, hs4, heq, hKL⟩ := q_carryOut (B' := B2) hkl (by omega) hL
  refine kcI (ci := 3) (q0 := 0) (As := []) (rest := []) E.1 (cx3_carryOut EX aL L  hs3) hX (cwV 0 hts gL_law_X3_carryOut rfl rfl rfl hdX3_carryOut ⟨Nat.le_of_ble_eq_true rfl, Nat.le_of_ble_eq_true rfl⟩) hKs hK hP hD hS hA (outW cJ ao o) (mdW cI am M) rfl rfl rfl rfl rfl rfl hl.1 (Nat.le_of_ble_eq_true rfl) dL_law_1406 ⟨Nat.le_of_succ_le hc, Nat.le_trans (Nat.le_add_right _ _) hs⟩ (fun H locs hP hD hS => ?_)
  have hP : va_P D vwCl (lawW cI cB cS cJ ao aL am o (fx3_carryOut L).2 M) H := hP
  have hD : va_D (fun q : Nat => s.heap.size ≤ q) (lawW cI cB cS cJ ao aL am o (fx3_carryOut L).2 M) := hD
  refine lv_aload_n hx hb dL_law_1409 rfl (lv_at hl 2 rfl) ?_
  refine kcI (ci := 4) (q0 := 0) (As := []) (rest := [.int ((fx3_carryOut L).1)]) E.1 (cx4_carryOut E am M  hs4) hX (cwV 0 hts gL_law_X4_carryOut rfl rfl rfl hdX4_carryOut ⟨Nat.le_of_ble_eq_true rfl, Nat.le_of_ble_eq_true rfl⟩) hKs hK hP hD hS hA _ _ (law_md cI cB cS cJ ao aL am o (fx3_carryOut L).2 M) (law_md cI cB cS cJ ao aL am o (fx3_carryOut L).2 (fx4_carryOut M).2).symm rfl rfl rfl rfl hl.1 (Nat.le_of_ble_eq_true rfl) dL_law_1410 ⟨Nat.le_of_succ_le hc, Nat.le_trans (Nat.le_add_right _ _) hs⟩ (fun H locs hP hD hS => ?_)
  refine W.widen (k := cells + 1) (n := slots + 6) (Nat.le_succ _) (Nat.le_add_right _ _) ?_
  refine lv_icmp_eq (tgt := 1476) hx hb dL_law_1413 (by decide) (fun _ => ?_) (fun h9 => absurd heq h9)
  exact kk _ _ _ hKL _ _ hP hD hS _ hl

set_option maxHeartbeats 4000000 in
set_option maxRecDepth 100000 in
theorem law_undo {p : Program} {l : Launch} {e : Env} {s : State} {m : MethodId} {below : List Frame} {meth : Method} {c : Code} {b Ln : Nat} {xs : Nat → Int32} {D : va_G} {cI cB cS cJ : ClassId} {K : State → Prop} {Q : State → Prop} {aL : Nat → Nat → Nat} {am : Nat → Nat} {ao : Nat} {x4 : Int32} {o : Nat → Int64} {L : Nat → St} {M : Md} {H : Heap} {locs : List Loc} {cells slots : Nat} {ls : Array Slot} {B B2 : Int} (C : LC p l s m c b Ln xs D cI cB cS cJ K)  (hkl : KL B L M) (hB : B + 1000 ≤ B2) (hL : B2 ≤ 1000000000) (hc : cells + 1 ≤ 601024) (hs : slots + 6 ≤ 7293034) (hP : va_P D vwCl (lawW cI cB cS cJ ao aL am o L M) H) (hD : va_D (fun q : Nat => s.heap.size ≤ q) (lawW cI cB cS cJ ao aL am o L M)) (hS : va_S (fun q : Nat => s.heap.size ≤ q) s.heap H locs) (hl : lv_has ls 9 (lv5 b aL am ao x4)) (kk : LK p l e s m below meth c b D cI cB cS cJ aL am ao x4 B2 cells slots Q) : W p l e room_1 s m #[Value.ref b] below meth c H locs cells slots Q (F0 m 1418 ls []) := by
  obtain ⟨hx, hb, hml, hown, hts, hXX, hbl, EW, hfl, hKs, hSt⟩ := C
  have EX := EW.1
  have E := EX.1
  have hK := (E.2 s hKs).1
  have hA : ∀ q : Nat, s.heap.size ≤ q → (fun q : Nat => s.heap.size ≤ q) q := fun _ h => h
  have hbA : ¬ (fun q : Nat => s.heap.size ≤ q) b := Nat.not_le.mpr hbl
  have hX : CallFix p m c cL_law 9 s _ wsL_law RL := ⟨hx, hb, hml, hown, hts⟩
  have hl : lv_has ls 9 [(0, .ref b), (1, .ref (aL 7 0)), (2, .ref (am 0)), (3, .ref ao), (4, .int x4)] := hl
  refine lv_aload_n hx hb dL_law_1418 rfl (lv_at hl 1 rfl) ?_
  refine lv_aload_n hx hb dL_law_1419 rfl (lv_at hl 3 rfl) ?_
  obtain ⟨hs3, hs4, hE, hkc, hr, hKL⟩ := q_undo (B' := B2) hkl (by omega)
  have hM := cx3_undo EX hfl aL L  hs3
  have hm4 := cx4_undo (l := l) E am M  hs4
  have hT := t3_undo L 
  unfold T3 at hT
  generalize (fx3_undo L).1 = ec at hE hkc hr hM hT
  generalize (fx3_undo L).2.1 = r at hr hM
  generalize (fx3_undo L).2.2 = L2 at hKL hM hT
  generalize fx4_undo M  = y at hkc hr hKL hm4
  refine kcsY (As := [.ref (aL 7 0), .ref ao]) (rest := []) E.1 (cw_undo EW aL L L2 ao o  hM hE hT) hX (vx_cwSW 2 hts gL_law_L_undo rfl rfl rfl hdL_undo ⟨Nat.le_of_ble_eq_true rfl, Nat.le_of_ble_eq_true rfl⟩) hKs hP hD hS hA hSt [] (mdW cI am M) (law_ls cI cB cS cJ ao aL am o L M) (law_ls cI cB cS cJ ao aL am (if ec = 0 then va_up o 0 r.toInt64 else o) L2 M).symm rfl rfl hl.1 (Nat.le_of_ble_eq_true rfl) dL_law_1420 ⟨hc, hs⟩ (fun H locs hP hD hS => ?_)
  refine lv_istore (lv' := (5, .int (kc 2 2 ec)) :: [(0, .ref b), (1, .ref (aL 7 0)), (2, .ref (am 0)), (3, .ref ao), (4, .int x4)]) hx hb dL_law_1423 hl (by decide) rfl (fun ls hl => ?_)
  refine lv_aload_n hx hb dL_law_1425 rfl (lv_at hl 3 rfl) ?_
  refine kcI (ci := 4) (q0 := 0) (As := []) (rest := []) E.1 hm4 hX (cwV 0 hts gL_law_X4_undo rfl rfl rfl hdX4_undo ⟨Nat.le_of_ble_eq_true rfl, Nat.le_of_ble_eq_true rfl⟩) hKs hK hP hD hS hA _ _ (law_md cI cB cS cJ ao aL am (if ec = 0 then va_up o 0 r.toInt64 else o) L2 M) (law_md cI cB cS cJ ao aL am (if ec = 0 then va_up o 0 r.toInt64 else o) L2 y.2).symm rfl rfl rfl rfl hl.1 (Nat.le_of_ble_eq_true rfl) dL_law_1426 ⟨hc, hs⟩ (fun H locs hP hD hS => ?_)
  refine lv_istore (lv' := (6, .int y.1) :: [(5, .int (kc 2 2 ec)), (0, .ref b), (1, .ref (aL 7 0)), (2, .ref (am 0)), (3, .ref ao), (4, .int x4)]) hx hb dL_law_1429 hl (by decide) rfl (fun ls hl => ?_)
  refine lv_aload_n hx hb dL_law_1431 rfl (lv_at hl 4 rfl) ?_
  refine kcI (ci := 4) (q0 := 0) (As := []) (rest := []) E.1 (cx4_thrown (l := l) E am y.2) hX (cwV 0 hts gL_law_X4_thrown rfl rfl rfl hdX4_thrown ⟨Nat.le_of_ble_eq_true rfl, Nat.le_of_ble_eq_true rfl⟩) hKs hK hP hD hS hA _ _ (law_md cI cB cS cJ ao aL am (if ec = 0 then va_up o 0 r.toInt64 else o) L2 y.2) (law_md cI cB cS cJ ao aL am (if ec = 0 then va_up o 0 r.toInt64 else o) L2 y.2).symm rfl rfl rfl rfl hl.1 (Nat.le_of_ble_eq_true rfl) dL_law_1432 ⟨hc, hs⟩ (fun H locs hP hD hS => ?_)
  refine lv_iload hx hb dL_law_1435 (lv_at hl 1 rfl) ?_
  refine lv_icmp_eq (tgt := 1442) hx hb dL_law_1437 (by decide) (fun _ => ?_) (fun h9 => absurd (show fx4_thrown y.2 = (kc 2 2 ec) from hkc.symm) h9)
  refine lv_iload hx hb dL_law_1442 (lv_at hl 1 rfl) ?_
  refine lv_if_ne (tgt := 1459) hx hb dL_law_1444 (by decide) (fun _ => ?_) (fun h9 => ?_)
  · refine lv_goto (tgt := 1476) hx hb dL_law_1459 (by decide) ?_
    exact kk _ _ _ hKL _ _ hP hD hS _ (lv_sub hl [2, 3, 4, 5, 6] rfl)
  · have he : ec = 0 := kc0 (by decide) (by decide) hE h9
    have hr2 := hr he
    rw [if_pos he] at hP hD
    subst hr2
    refine lv_aload_n hx hb dL_law_1447 rfl (lv_at hl 5 rfl) ?_
    refine lv_iconst (v := 0) hx hb dL_law_1448 (by decide) ?_
    refine va_lald hx hb hK hP 0 3 rfl rfl (by unfold vp_in; decide) dL_law_1449 ?_
    refine kw_top (v := .long y.1.toInt64) (by rw [show (0 : Int32).toNatClampNeg = 0 from rfl, va_up_self]) ?_
    refine lv_iload hx hb dL_law_1450 (lv_at hl 0 rfl) ?_
    refine lv_i2l (v := y.1.toInt64) hx hb dL_law_1452 rfl ?_
    refine W.lcmp hx hb dL_law_1453 ?_
    refine lv_if_eq (tgt := 1459) hx hb dL_law_1454 (by decide) (fun _ => ?_) (fun h8 => absurd (klcmp _) h8)
    refine lv_goto (tgt := 1476) hx hb dL_law_1459 (by decide) ?_
    exact kk _ _ _ hKL _ _ hP hD hS _ (lv_sub hl [2, 3, 4, 5, 6] rfl)

set_option maxHeartbeats 4000000 in
set_option maxRecDepth 100000 in
theorem law_digest {p : Program} {l : Launch} {e : Env} {s : State} {m : MethodId} {below : List Frame} {meth : Method} {c : Code} {b Ln : Nat} {xs : Nat → Int32} {D : va_G} {cI cB cS cJ : ClassId} {K : State → Prop} {Q : State → Prop} {aL : Nat → Nat → Nat} {am : Nat → Nat} {ao : Nat} {x4 : Int32} {o : Nat → Int64} {L : Nat → St} {M : Md} {H : Heap} {locs : List Loc} {cells slots : Nat} {ls : Array Slot} {B B2 : Int} (C : LC p l s m c b Ln xs D cI cB cS cJ K)  (hkl : KL B L M) (hB : B + 1000 ≤ B2) (hL : B2 ≤ 1000000000) (hc : cells + 1 ≤ 601024) (hs : slots + 6 ≤ 7293034) (hP : va_P D vwCl (lawW cI cB cS cJ ao aL am o L M) H) (hD : va_D (fun q : Nat => s.heap.size ≤ q) (lawW cI cB cS cJ ao aL am o L M)) (hS : va_S (fun q : Nat => s.heap.size ≤ q) s.heap H locs) (hl : lv_has ls 9 (lv5 b aL am ao x4)) (kk : LK p l e s m below meth c b D cI cB cS cJ aL am ao x4 B2 cells slots Q) : W p l e room_1 s m #[Value.ref b] below meth c H locs cells slots Q (F0 m 1462 ls []) := by
  obtain ⟨hx, hb, hml, hown, hts, hXX, hbl, EW, hfl, hKs, hSt⟩ := C
  have EX := EW.1
  have E := EX.1
  have hK := (E.2 s hKs).1
  have hA : ∀ q : Nat, s.heap.size ≤ q → (fun q : Nat => s.heap.size ≤ q) q := fun _ h => h
  have hbA : ¬ (fun q : Nat => s.heap.size ≤ q) b := Nat.not_le.mpr hbl
  have hX : CallFix p m c cL_law 9 s _ wsL_law RL := ⟨hx, hb, hml, hown, hts⟩
  have hl : lv_has ls 9 [(0, .ref b), (1, .ref (aL 7 0)), (2, .ref (am 0)), (3, .ref ao), (4, .int x4)] := hl
  refine lv_aload_n hx hb dL_law_1462 rfl (lv_at hl 1 rfl) ?_
  obtain ⟨hs3, hs4, heq, hKL⟩ := q_digest (B' := B2) hkl (by omega)
  refine kcJ (ci := 3) (q0 := 0) (As := []) (rest := []) E.1 (cx3_digest EX aL L  hs3) hX (cwV 0 hts gL_law_X3_digest rfl rfl rfl hdX3_digest ⟨Nat.le_of_ble_eq_true rfl, Nat.le_of_ble_eq_true rfl⟩) hKs hK hP hD hS hA (outW cJ ao o) (mdW cI am M) rfl rfl rfl rfl rfl rfl hl.1 (Nat.le_of_ble_eq_true rfl) dL_law_1463 ⟨Nat.le_of_succ_le hc, Nat.le_trans (Nat.le_add_right _ _) hs⟩ (fun H locs hP hD hS => ?_)
  have hP : va_P D vwCl (lawW cI cB cS cJ ao aL am o L M) H := hP
  have hD : va_D (fun q : Nat => s.heap.size ≤ q) (lawW cI cB cS cJ ao aL am o L M) := hD
  refine lv_aload_n hx hb dL_law_1466 rfl (lv_at hl 2 rfl) ?_
  refine kcJ (ci := 4) (q0 := 0) (As := []) (rest := [.long (fx3_digest L)]) E.1 (cx4_digest E am M  hs4) hX (cwV 0 hts gL_law_X4_digest rfl rfl rfl hdX4_digest ⟨Nat.le_of_ble_eq_true rfl, Nat.le_of_ble_eq_true rfl⟩) hKs hK hP hD hS hA _ _ (law_md cI cB cS cJ ao aL am o L M) (law_md cI cB cS cJ ao aL am o L (fx4_digest M).2).symm rfl rfl rfl rfl hl.1 (Nat.le_of_ble_eq_true rfl) dL_law_1467 ⟨Nat.le_of_succ_le hc, Nat.le_trans (Nat.le_add_right _ _) hs⟩ (fun H locs hP hD hS => ?_)
  rw [← heq]
  refine W.lcmp hx hb dL_law_1470 ?_
  refine W.widen (k := cells + 1) (n := slots + 6) (Nat.le_succ _) (Nat.le_add_right _ _) ?_
  refine lv_if_eq (tgt := 1476) hx hb dL_law_1471 (by decide) (fun _ => ?_) (fun h9 => absurd (klcmp _) h9)
  exact kk _ _ _ hKL _ _ hP hD hS _ hl

/-! more of the law's cases -/
set_option maxHeartbeats 4000000 in
set_option maxRecDepth 100000 in
theorem law_take {p : Program} {l : Launch} {e : Env} {s : State} {m : MethodId} {below : List Frame} {meth : Method} {c : Code} {b Ln : Nat} {xs : Nat → Int32} {D : va_G} {cI cB cS cJ : ClassId} {K : State → Prop} {Q : State → Prop} {aL : Nat → Nat → Nat} {am : Nat → Nat} {ao : Nat} {x4 : Int32} {o : Nat → Int64} {L : Nat → St} {M : Md} {H : Heap} {locs : List Loc} {cells slots : Nat} {ls : Array Slot} {B B2 : Int} (C : LC p l s m c b Ln xs D cI cB cS cJ K) (hi1 : vp_in (x4 + 1) Ln) (hkl : KL B L M) (hB : B + 1000 ≤ B2) (hL : B2 ≤ 1000000000) (hc : cells + 1 ≤ 601024) (hs : slots + 6 ≤ 7293034) (hP : va_P D vwCl (lawW cI cB cS cJ ao aL am o L M) H) (hD : va_D (fun q : Nat => s.heap.size ≤ q) (lawW cI cB cS cJ ao aL am o L M)) (hS : va_S (fun q : Nat => s.heap.size ≤ q) s.heap H locs) (hl : lv_has ls 9 (lv5 b aL am ao x4)) (kk : LK p l e s m below meth c b D cI cB cS cJ aL am ao x4 B2 cells slots Q) : W p l e room_1 s m #[Value.ref b] below meth c H locs cells slots Q (F0 m 685 ls []) := by
  obtain ⟨hx, hb, hml, hown, hts, hXX, hbl, EW, hfl, hKs, hSt⟩ := C
  have EX := EW.1
  have E := EX.1
  have hK := (E.2 s hKs).1
  have hA : ∀ q : Nat, s.heap.size ≤ q → (fun q : Nat => s.heap.size ≤ q) q := fun _ h => h
  have hbA : ¬ (fun q : Nat => s.heap.size ≤ q) b := Nat.not_le.mpr hbl
  have hX : CallFix p m c cL_law 9 s _ wsL_law RL := ⟨hx, hb, hml, hown, hts⟩
  have hl : lv_has ls 9 [(0, .ref b), (1, .ref (aL 7 0)), (2, .ref (am 0)), (3, .ref ao), (4, .int x4)] := hl
  obtain ⟨a1, ea1⟩ : ∃ y, y = xs (x4 + 1).toNatClampNeg := ⟨_, rfl⟩
  refine lv_aload_n hx hb dL_law_685 rfl (lv_at hl 1 rfl) ?_
  refine lv_aload_n hx hb dL_law_686 rfl (lv_at hl 0 rfl) ?_
  refine lv_iload hx hb dL_law_687 (lv_at hl 4 rfl) ?_
  refine lv_iconst (v := 1) hx hb dL_law_689 (by decide) ?_
  refine lv_iadd hx hb dL_law_690 ?_
  refine va_sld hx hb hXX hbl hbA hS hi1 dL_law_691 ?_
  refine kw_top (v := .int a1) (by rw [ea1]) ?_
  refine lv_aload_n hx hb dL_law_692 rfl (lv_at hl 3 rfl) ?_
  obtain ⟨hs3, hs4, hE, hkc, hr, hKL⟩ := q_take (B' := B2) hkl (by omega) a1
  have hM := cx3_take EX hfl aL L a1 hs3
  have hm4 := cx4_take (l := l) E am M a1 hs4
  have hT := t3_take L a1
  unfold T3 at hT
  generalize (fx3_take L a1).1 = ec at hE hkc hr hM hT
  generalize (fx3_take L a1).2.1 = r at hr hM
  generalize (fx3_take L a1).2.2 = L2 at hKL hM hT
  generalize fx4_take M a1 = y at hkc hr hKL hm4
  refine kcsY (As := [.ref (aL 7 0), .int a1, .ref ao]) (rest := []) E.1 (cw_take EW aL L L2 ao o a1 hM hE hT) hX (vx_cwSW 3 hts gL_law_L_take rfl rfl rfl hdL_take ⟨Nat.le_of_ble_eq_true rfl, Nat.le_of_ble_eq_true rfl⟩) hKs hP hD hS hA hSt [] (mdW cI am M) (law_ls cI cB cS cJ ao aL am o L M) (law_ls cI cB cS cJ ao aL am (if ec = 0 then va_up o 0 r.toInt64 else o) L2 M).symm rfl rfl hl.1 (Nat.le_of_ble_eq_true rfl) dL_law_693 ⟨hc, hs⟩ (fun H locs hP hD hS => ?_)
  refine lv_istore (lv' := (5, .int (kc 3 3 ec)) :: [(0, .ref b), (1, .ref (aL 7 0)), (2, .ref (am 0)), (3, .ref ao), (4, .int x4)]) hx hb dL_law_696 hl (by decide) rfl (fun ls hl => ?_)
  refine lv_aload_n hx hb dL_law_698 rfl (lv_at hl 3 rfl) ?_
  refine lv_aload_n hx hb dL_law_699 rfl (lv_at hl 1 rfl) ?_
  refine lv_iload hx hb dL_law_700 (lv_at hl 5 rfl) ?_
  refine lv_iconst (v := 1) hx hb dL_law_702 (by decide) ?_
  refine lv_iadd hx hb dL_law_703 ?_
  refine va_sld hx hb hXX hbl hbA hS hi1 dL_law_704 ?_
  refine kw_top (v := .int a1) (by rw [ea1]) ?_
  refine kcI (ci := 4) (q0 := 0) (As := [.int a1]) (rest := []) E.1 hm4 hX (cwV 1 hts gL_law_X4_take rfl rfl rfl hdX4_take ⟨Nat.le_of_ble_eq_true rfl, Nat.le_of_ble_eq_true rfl⟩) hKs hK hP hD hS hA _ _ (law_md cI cB cS cJ ao aL am (if ec = 0 then va_up o 0 r.toInt64 else o) L2 M) (law_md cI cB cS cJ ao aL am (if ec = 0 then va_up o 0 r.toInt64 else o) L2 y.2).symm rfl rfl rfl rfl hl.1 (Nat.le_of_ble_eq_true rfl) dL_law_705 ⟨hc, hs⟩ (fun H locs hP hD hS => ?_)
  refine lv_istore (lv' := (6, .int y.1) :: [(5, .int (kc 3 3 ec)), (0, .ref b), (1, .ref (aL 7 0)), (2, .ref (am 0)), (3, .ref ao), (4, .int x4)]) hx hb dL_law_708 hl (by decide) rfl (fun ls hl => ?_)
  refine lv_aload_n hx hb dL_law_710 rfl (lv_at hl 4 rfl) ?_
  refine kcI (ci := 4) (q0 := 0) (As := []) (rest := []) E.1 (cx4_thrown (l := l) E am y.2) hX (cwV 0 hts gL_law_X4_thrown rfl rfl rfl hdX4_thrown ⟨Nat.le_of_ble_eq_true rfl, Nat.le_of_ble_eq_true rfl⟩) hKs hK hP hD hS hA _ _ (law_md cI cB cS cJ ao aL am (if ec = 0 then va_up o 0 r.toInt64 else o) L2 y.2) (law_md cI cB cS cJ ao aL am (if ec = 0 then va_up o 0 r.toInt64 else o) L2 y.2).symm rfl rfl rfl rfl hl.1 (Nat.le_of_ble_eq_true rfl) dL_law_711 ⟨hc, hs⟩ (fun H locs hP hD hS => ?_)
  refine lv_iload hx hb dL_law_714 (lv_at hl 1 rfl) ?_
  refine lv_icmp_eq (tgt := 721) hx hb dL_law_716 (by decide) (fun _ => ?_) (fun h9 => absurd (show fx4_thrown y.2 = (kc 3 3 ec) from hkc.symm) h9)
  refine lv_iload hx hb dL_law_721 (lv_at hl 1 rfl) ?_
  refine lv_if_ne (tgt := 738) hx hb dL_law_723 (by decide) (fun _ => ?_) (fun h9 => ?_)
  · refine lv_goto (tgt := 1476) hx hb dL_law_738 (by decide) ?_
    exact kk _ _ _ hKL _ _ hP hD hS _ (lv_sub hl [2, 3, 4, 5, 6] rfl)
  · have he : ec = 0 := kc0 (by decide) (by decide) hE h9
    have hr2 := hr he
    rw [if_pos he] at hP hD
    subst hr2
    refine lv_aload_n hx hb dL_law_726 rfl (lv_at hl 5 rfl) ?_
    refine lv_iconst (v := 0) hx hb dL_law_727 (by decide) ?_
    refine va_lald hx hb hK hP 0 3 rfl rfl (by unfold vp_in; decide) dL_law_728 ?_
    refine kw_top (v := .long y.1.toInt64) (by rw [show (0 : Int32).toNatClampNeg = 0 from rfl, va_up_self]) ?_
    refine lv_iload hx hb dL_law_729 (lv_at hl 0 rfl) ?_
    refine lv_i2l (v := y.1.toInt64) hx hb dL_law_731 rfl ?_
    refine W.lcmp hx hb dL_law_732 ?_
    refine lv_if_eq (tgt := 738) hx hb dL_law_733 (by decide) (fun _ => ?_) (fun h8 => absurd (klcmp _) h8)
    refine lv_goto (tgt := 1476) hx hb dL_law_738 (by decide) ?_
    exact kk _ _ _ hKL _ _ hP hD hS _ (lv_sub hl [2, 3, 4, 5, 6] rfl)

set_option maxHeartbeats 4000000 in
set_option maxRecDepth 100000 in
theorem law_run {p : Program} {l : Launch} {e : Env} {s : State} {m : MethodId} {below : List Frame} {meth : Method} {c : Code} {b Ln : Nat} {xs : Nat → Int32} {D : va_G} {cI cB cS cJ : ClassId} {K : State → Prop} {Q : State → Prop} {aL : Nat → Nat → Nat} {am : Nat → Nat} {ao : Nat} {x4 : Int32} {o : Nat → Int64} {L : Nat → St} {M : Md} {H : Heap} {locs : List Loc} {cells slots : Nat} {ls : Array Slot} {B B2 : Int} (C : LC p l s m c b Ln xs D cI cB cS cJ K) (hi1 : vp_in (x4 + 1) Ln) (hkl : KL B L M) (hB : B + 1000 ≤ B2) (hL : B2 ≤ 1000000000) (hc : cells + 1 ≤ 601024) (hs : slots + 6 ≤ 7293034) (hP : va_P D vwCl (lawW cI cB cS cJ ao aL am o L M) H) (hD : va_D (fun q : Nat => s.heap.size ≤ q) (lawW cI cB cS cJ ao aL am o L M)) (hS : va_S (fun q : Nat => s.heap.size ≤ q) s.heap H locs) (hl : lv_has ls 9 (lv5 b aL am ao x4)) (kk : LK p l e s m below meth c b D cI cB cS cJ aL am ao x4 B2 cells slots Q) : W p l e room_1 s m #[Value.ref b] below meth c H locs cells slots Q (F0 m 741 ls []) := by
  obtain ⟨hx, hb, hml, hown, hts, hXX, hbl, EW, hfl, hKs, hSt⟩ := C
  have EX := EW.1
  have E := EX.1
  have hK := (E.2 s hKs).1
  have hA : ∀ q : Nat, s.heap.size ≤ q → (fun q : Nat => s.heap.size ≤ q) q := fun _ h => h
  have hbA : ¬ (fun q : Nat => s.heap.size ≤ q) b := Nat.not_le.mpr hbl
  have hX : CallFix p m c cL_law 9 s _ wsL_law RL := ⟨hx, hb, hml, hown, hts⟩
  have hl : lv_has ls 9 [(0, .ref b), (1, .ref (aL 7 0)), (2, .ref (am 0)), (3, .ref ao), (4, .int x4)] := hl
  obtain ⟨a1, ea1⟩ : ∃ y, y = xs (x4 + 1).toNatClampNeg := ⟨_, rfl⟩
  refine lv_aload_n hx hb dL_law_741 rfl (lv_at hl 1 rfl) ?_
  refine lv_aload_n hx hb dL_law_742 rfl (lv_at hl 0 rfl) ?_
  refine lv_iload hx hb dL_law_743 (lv_at hl 4 rfl) ?_
  refine lv_iconst (v := 1) hx hb dL_law_745 (by decide) ?_
  refine lv_iadd hx hb dL_law_746 ?_
  refine va_sld hx hb hXX hbl hbA hS hi1 dL_law_747 ?_
  refine kw_top (v := .int a1) (by rw [ea1]) ?_
  refine lv_aload_n hx hb dL_law_748 rfl (lv_at hl 3 rfl) ?_
  obtain ⟨hs3, hs4, hE, hkc, hr, hKL⟩ := q_run (B' := B2) hkl (by omega) hL a1
  have hM := cx3_run EX hfl aL L a1 hs3
  have hm4 := cx4_run (l := l) E am M a1 hs4
  have hT := t3_run L a1
  unfold T3 at hT
  generalize (fx3_run L a1).1 = ec at hE hkc hr hM hT
  generalize (fx3_run L a1).2.1 = r at hr hM
  generalize (fx3_run L a1).2.2 = L2 at hKL hM hT
  generalize fx4_run M a1 = y at hkc hr hKL hm4
  refine kcsY (As := [.ref (aL 7 0), .int a1, .ref ao]) (rest := []) E.1 (cw_run EW aL L L2 ao o a1 hM hE hT) hX (vx_cwSW 3 hts gL_law_L_run rfl rfl rfl hdL_run ⟨Nat.le_of_ble_eq_true rfl, Nat.le_of_ble_eq_true rfl⟩) hKs hP hD hS hA hSt [] (mdW cI am M) (law_ls cI cB cS cJ ao aL am o L M) (law_ls cI cB cS cJ ao aL am (if ec = 0 then va_up o 0 r.toInt64 else o) L2 M).symm rfl rfl hl.1 (Nat.le_of_ble_eq_true rfl) dL_law_749 ⟨hc, hs⟩ (fun H locs hP hD hS => ?_)
  refine lv_istore (lv' := (5, .int (kc 1 1 ec)) :: [(0, .ref b), (1, .ref (aL 7 0)), (2, .ref (am 0)), (3, .ref ao), (4, .int x4)]) hx hb dL_law_752 hl (by decide) rfl (fun ls hl => ?_)
  refine lv_aload_n hx hb dL_law_754 rfl (lv_at hl 3 rfl) ?_
  refine lv_aload_n hx hb dL_law_755 rfl (lv_at hl 1 rfl) ?_
  refine lv_iload hx hb dL_law_756 (lv_at hl 5 rfl) ?_
  refine lv_iconst (v := 1) hx hb dL_law_758 (by decide) ?_
  refine lv_iadd hx hb dL_law_759 ?_
  refine va_sld hx hb hXX hbl hbA hS hi1 dL_law_760 ?_
  refine kw_top (v := .int a1) (by rw [ea1]) ?_
  refine kcI (ci := 4) (q0 := 0) (As := [.int a1]) (rest := []) E.1 hm4 hX (cwV 1 hts gL_law_X4_run rfl rfl rfl hdX4_run ⟨Nat.le_of_ble_eq_true rfl, Nat.le_of_ble_eq_true rfl⟩) hKs hK hP hD hS hA _ _ (law_md cI cB cS cJ ao aL am (if ec = 0 then va_up o 0 r.toInt64 else o) L2 M) (law_md cI cB cS cJ ao aL am (if ec = 0 then va_up o 0 r.toInt64 else o) L2 y.2).symm rfl rfl rfl rfl hl.1 (Nat.le_of_ble_eq_true rfl) dL_law_761 ⟨hc, hs⟩ (fun H locs hP hD hS => ?_)
  refine lv_istore (lv' := (6, .int y.1) :: [(5, .int (kc 1 1 ec)), (0, .ref b), (1, .ref (aL 7 0)), (2, .ref (am 0)), (3, .ref ao), (4, .int x4)]) hx hb dL_law_764 hl (by decide) rfl (fun ls hl => ?_)
  refine lv_aload_n hx hb dL_law_766 rfl (lv_at hl 4 rfl) ?_
  refine kcI (ci := 4) (q0 := 0) (As := []) (rest := []) E.1 (cx4_thrown (l := l) E am y.2) hX (cwV 0 hts gL_law_X4_thrown rfl rfl rfl hdX4_thrown ⟨Nat.le_of_ble_eq_true rfl, Nat.le_of_ble_eq_true rfl⟩) hKs hK hP hD hS hA _ _ (law_md cI cB cS cJ ao aL am (if ec = 0 then va_up o 0 r.toInt64 else o) L2 y.2) (law_md cI cB cS cJ ao aL am (if ec = 0 then va_up o 0 r.toInt64 else o) L2 y.2).symm rfl rfl rfl rfl hl.1 (Nat.le_of_ble_eq_true rfl) dL_law_767 ⟨hc, hs⟩ (fun H locs hP hD hS => ?_)
  refine lv_iload hx hb dL_law_770 (lv_at hl 1 rfl) ?_
  refine lv_icmp_eq (tgt := 777) hx hb dL_law_772 (by decide) (fun _ => ?_) (fun h9 => absurd (show fx4_thrown y.2 = (kc 1 1 ec) from hkc.symm) h9)
  refine lv_iload hx hb dL_law_777 (lv_at hl 1 rfl) ?_
  refine lv_if_ne (tgt := 794) hx hb dL_law_779 (by decide) (fun _ => ?_) (fun h9 => ?_)
  · refine lv_goto (tgt := 1476) hx hb dL_law_794 (by decide) ?_
    exact kk _ _ _ hKL _ _ hP hD hS _ (lv_sub hl [2, 3, 4, 5, 6] rfl)
  · have he : ec = 0 := kc0 (by decide) (by decide) hE h9
    have hr2 := hr he
    rw [if_pos he] at hP hD
    subst hr2
    refine lv_aload_n hx hb dL_law_782 rfl (lv_at hl 5 rfl) ?_
    refine lv_iconst (v := 0) hx hb dL_law_783 (by decide) ?_
    refine va_lald hx hb hK hP 0 3 rfl rfl (by unfold vp_in; decide) dL_law_784 ?_
    refine kw_top (v := .long y.1.toInt64) (by rw [show (0 : Int32).toNatClampNeg = 0 from rfl, va_up_self]) ?_
    refine lv_iload hx hb dL_law_785 (lv_at hl 0 rfl) ?_
    refine lv_i2l (v := y.1.toInt64) hx hb dL_law_787 rfl ?_
    refine W.lcmp hx hb dL_law_788 ?_
    refine lv_if_eq (tgt := 794) hx hb dL_law_789 (by decide) (fun _ => ?_) (fun h8 => absurd (klcmp _) h8)
    refine lv_goto (tgt := 1476) hx hb dL_law_794 (by decide) ?_
    exact kk _ _ _ hKL _ _ hP hD hS _ (lv_sub hl [2, 3, 4, 5, 6] rfl)

set_option maxHeartbeats 4000000 in
set_option maxRecDepth 100000 in
theorem law_status {p : Program} {l : Launch} {e : Env} {s : State} {m : MethodId} {below : List Frame} {meth : Method} {c : Code} {b Ln : Nat} {xs : Nat → Int32} {D : va_G} {cI cB cS cJ : ClassId} {K : State → Prop} {Q : State → Prop} {aL : Nat → Nat → Nat} {am : Nat → Nat} {ao : Nat} {x4 : Int32} {o : Nat → Int64} {L : Nat → St} {M : Md} {H : Heap} {locs : List Loc} {cells slots : Nat} {ls : Array Slot} {B B2 : Int} (C : LC p l s m c b Ln xs D cI cB cS cJ K) (hi1 : vp_in (x4 + 1) Ln) (hkl : KL B L M) (hB : B + 1000 ≤ B2) (hL : B2 ≤ 1000000000) (hc : cells + 1 ≤ 601024) (hs : slots + 6 ≤ 7293034) (hP : va_P D vwCl (lawW cI cB cS cJ ao aL am o L M) H) (hD : va_D (fun q : Nat => s.heap.size ≤ q) (lawW cI cB cS cJ ao aL am o L M)) (hS : va_S (fun q : Nat => s.heap.size ≤ q) s.heap H locs) (hl : lv_has ls 9 (lv5 b aL am ao x4)) (kk : LK p l e s m below meth c b D cI cB cS cJ aL am ao x4 B2 cells slots Q) : W p l e room_1 s m #[Value.ref b] below meth c H locs cells slots Q (F0 m 797 ls []) := by
  obtain ⟨hx, hb, hml, hown, hts, hXX, hbl, EW, hfl, hKs, hSt⟩ := C
  have EX := EW.1
  have E := EX.1
  have hK := (E.2 s hKs).1
  have hA : ∀ q : Nat, s.heap.size ≤ q → (fun q : Nat => s.heap.size ≤ q) q := fun _ h => h
  have hbA : ¬ (fun q : Nat => s.heap.size ≤ q) b := Nat.not_le.mpr hbl
  have hX : CallFix p m c cL_law 9 s _ wsL_law RL := ⟨hx, hb, hml, hown, hts⟩
  have hl : lv_has ls 9 [(0, .ref b), (1, .ref (aL 7 0)), (2, .ref (am 0)), (3, .ref ao), (4, .int x4)] := hl
  obtain ⟨a1, ea1⟩ : ∃ y, y = xs (x4 + 1).toNatClampNeg := ⟨_, rfl⟩
  refine lv_aload_n hx hb dL_law_797 rfl (lv_at hl 1 rfl) ?_
  refine lv_aload_n hx hb dL_law_798 rfl (lv_at hl 0 rfl) ?_
  refine lv_iload hx hb dL_law_799 (lv_at hl 4 rfl) ?_
  refine lv_iconst (v := 1) hx hb dL_law_801 (by decide) ?_
  refine lv_iadd hx hb dL_law_802 ?_
  refine va_sld hx hb hXX hbl hbA hS hi1 dL_law_803 ?_
  refine kw_top (v := .int a1) (by rw [ea1]) ?_
  refine lv_aload_n hx hb dL_law_804 rfl (lv_at hl 3 rfl) ?_
  obtain ⟨hE, hkc, hr, hKL⟩ := q_status (B' := B2) hkl (by omega) a1
  have hM := cx3_status EX hfl aL L a1
  have hm4 := cx4_status (l := l) E am M a1
  have hT : (fx3_status L a1).1 ≠ 0 → L = L := fun _ => rfl
  generalize (fx3_status L a1).1 = ec at hE hkc hr hM hT
  generalize (fx3_status L a1).2 = r at hr hM
  generalize fx4_status M a1 = y at hkc hr hKL hm4
  refine kcsY (As := [.ref (aL 7 0), .int a1, .ref ao]) (rest := []) E.1 (cw_status EW aL L L ao o a1 hM hE hT) hX (vx_cwSW 3 hts gL_law_L_status rfl rfl rfl hdL_status ⟨Nat.le_of_ble_eq_true rfl, Nat.le_of_ble_eq_true rfl⟩) hKs hP hD hS hA hSt [] (mdW cI am M) (law_ls cI cB cS cJ ao aL am o L M) (law_ls cI cB cS cJ ao aL am (if ec = 0 then va_up o 0 r.toInt64 else o) L M).symm rfl rfl hl.1 (Nat.le_of_ble_eq_true rfl) dL_law_805 ⟨hc, hs⟩ (fun H locs hP hD hS => ?_)
  refine lv_istore (lv' := (5, .int (kc 1 1 ec)) :: [(0, .ref b), (1, .ref (aL 7 0)), (2, .ref (am 0)), (3, .ref ao), (4, .int x4)]) hx hb dL_law_808 hl (by decide) rfl (fun ls hl => ?_)
  refine lv_aload_n hx hb dL_law_810 rfl (lv_at hl 3 rfl) ?_
  refine lv_aload_n hx hb dL_law_811 rfl (lv_at hl 1 rfl) ?_
  refine lv_iload hx hb dL_law_812 (lv_at hl 5 rfl) ?_
  refine lv_iconst (v := 1) hx hb dL_law_814 (by decide) ?_
  refine lv_iadd hx hb dL_law_815 ?_
  refine va_sld hx hb hXX hbl hbA hS hi1 dL_law_816 ?_
  refine kw_top (v := .int a1) (by rw [ea1]) ?_
  refine kcI (ci := 4) (q0 := 0) (As := [.int a1]) (rest := []) E.1 hm4 hX (cwV 1 hts gL_law_X4_status rfl rfl rfl hdX4_status ⟨Nat.le_of_ble_eq_true rfl, Nat.le_of_ble_eq_true rfl⟩) hKs hK hP hD hS hA _ _ (law_md cI cB cS cJ ao aL am (if ec = 0 then va_up o 0 r.toInt64 else o) L M) (law_md cI cB cS cJ ao aL am (if ec = 0 then va_up o 0 r.toInt64 else o) L y.2).symm rfl rfl rfl rfl hl.1 (Nat.le_of_ble_eq_true rfl) dL_law_817 ⟨hc, hs⟩ (fun H locs hP hD hS => ?_)
  refine lv_istore (lv' := (6, .int y.1) :: [(5, .int (kc 1 1 ec)), (0, .ref b), (1, .ref (aL 7 0)), (2, .ref (am 0)), (3, .ref ao), (4, .int x4)]) hx hb dL_law_820 hl (by decide) rfl (fun ls hl => ?_)
  refine lv_aload_n hx hb dL_law_822 rfl (lv_at hl 4 rfl) ?_
  refine kcI (ci := 4) (q0 := 0) (As := []) (rest := []) E.1 (cx4_thrown (l := l) E am y.2) hX (cwV 0 hts gL_law_X4_thrown rfl rfl rfl hdX4_thrown ⟨Nat.le_of_ble_eq_true rfl, Nat.le_of_ble_eq_true rfl⟩) hKs hK hP hD hS hA _ _ (law_md cI cB cS cJ ao aL am (if ec = 0 then va_up o 0 r.toInt64 else o) L y.2) (law_md cI cB cS cJ ao aL am (if ec = 0 then va_up o 0 r.toInt64 else o) L y.2).symm rfl rfl rfl rfl hl.1 (Nat.le_of_ble_eq_true rfl) dL_law_823 ⟨hc, hs⟩ (fun H locs hP hD hS => ?_)
  refine lv_iload hx hb dL_law_826 (lv_at hl 1 rfl) ?_
  refine lv_icmp_eq (tgt := 833) hx hb dL_law_828 (by decide) (fun _ => ?_) (fun h9 => absurd (show fx4_thrown y.2 = (kc 1 1 ec) from hkc.symm) h9)
  refine lv_iload hx hb dL_law_833 (lv_at hl 1 rfl) ?_
  refine lv_if_ne (tgt := 850) hx hb dL_law_835 (by decide) (fun _ => ?_) (fun h9 => ?_)
  · refine lv_goto (tgt := 1476) hx hb dL_law_850 (by decide) ?_
    exact kk _ _ _ hKL _ _ hP hD hS _ (lv_sub hl [2, 3, 4, 5, 6] rfl)
  · have he : ec = 0 := kc0 (by decide) (by decide) hE h9
    have hr2 := hr he
    rw [if_pos he] at hP hD
    subst hr2
    refine lv_aload_n hx hb dL_law_838 rfl (lv_at hl 5 rfl) ?_
    refine lv_iconst (v := 0) hx hb dL_law_839 (by decide) ?_
    refine va_lald hx hb hK hP 0 3 rfl rfl (by unfold vp_in; decide) dL_law_840 ?_
    refine kw_top (v := .long y.1.toInt64) (by rw [show (0 : Int32).toNatClampNeg = 0 from rfl, va_up_self]) ?_
    refine lv_iload hx hb dL_law_841 (lv_at hl 0 rfl) ?_
    refine lv_i2l (v := y.1.toInt64) hx hb dL_law_843 rfl ?_
    refine W.lcmp hx hb dL_law_844 ?_
    refine lv_if_eq (tgt := 850) hx hb dL_law_845 (by decide) (fun _ => ?_) (fun h8 => absurd (klcmp _) h8)
    refine lv_goto (tgt := 1476) hx hb dL_law_850 (by decide) ?_
    exact kk _ _ _ hKL _ _ hP hD hS _ (lv_sub hl [2, 3, 4, 5, 6] rfl)

set_option maxHeartbeats 4000000 in
set_option maxRecDepth 100000 in
theorem law_item {p : Program} {l : Launch} {e : Env} {s : State} {m : MethodId} {below : List Frame} {meth : Method} {c : Code} {b Ln : Nat} {xs : Nat → Int32} {D : va_G} {cI cB cS cJ : ClassId} {K : State → Prop} {Q : State → Prop} {aL : Nat → Nat → Nat} {am : Nat → Nat} {ao : Nat} {x4 : Int32} {o : Nat → Int64} {L : Nat → St} {M : Md} {H : Heap} {locs : List Loc} {cells slots : Nat} {ls : Array Slot} {B B2 : Int} (C : LC p l s m c b Ln xs D cI cB cS cJ K) (hi1 : vp_in (x4 + 1) Ln) (hi2 : vp_in (x4 + 2) Ln) (hkl : KL B L M) (hB : B + 1000 ≤ B2) (hL : B2 ≤ 1000000000) (hc : cells + 1 ≤ 601024) (hs : slots + 6 ≤ 7293034) (hP : va_P D vwCl (lawW cI cB cS cJ ao aL am o L M) H) (hD : va_D (fun q : Nat => s.heap.size ≤ q) (lawW cI cB cS cJ ao aL am o L M)) (hS : va_S (fun q : Nat => s.heap.size ≤ q) s.heap H locs) (hl : lv_has ls 9 (lv5 b aL am ao x4)) (kk : LK p l e s m below meth c b D cI cB cS cJ aL am ao x4 B2 cells slots Q) : W p l e room_1 s m #[Value.ref b] below meth c H locs cells slots Q (F0 m 853 ls []) := by
  obtain ⟨hx, hb, hml, hown, hts, hXX, hbl, EW, hfl, hKs, hSt⟩ := C
  have EX := EW.1
  have E := EX.1
  have hK := (E.2 s hKs).1
  have hA : ∀ q : Nat, s.heap.size ≤ q → (fun q : Nat => s.heap.size ≤ q) q := fun _ h => h
  have hbA : ¬ (fun q : Nat => s.heap.size ≤ q) b := Nat.not_le.mpr hbl
  have hX : CallFix p m c cL_law 9 s _ wsL_law RL := ⟨hx, hb, hml, hown, hts⟩
  have hl : lv_has ls 9 [(0, .ref b), (1, .ref (aL 7 0)), (2, .ref (am 0)), (3, .ref ao), (4, .int x4)] := hl
  obtain ⟨a1, ea1⟩ : ∃ y, y = xs (x4 + 1).toNatClampNeg := ⟨_, rfl⟩
  obtain ⟨a2, ea2⟩ : ∃ y, y = xs (x4 + 2).toNatClampNeg := ⟨_, rfl⟩
  refine lv_aload_n hx hb dL_law_853 rfl (lv_at hl 1 rfl) ?_
  refine lv_aload_n hx hb dL_law_854 rfl (lv_at hl 0 rfl) ?_
  refine lv_iload hx hb dL_law_855 (lv_at hl 4 rfl) ?_
  refine lv_iconst (v := 1) hx hb dL_law_857 (by decide) ?_
  refine lv_iadd hx hb dL_law_858 ?_
  refine va_sld hx hb hXX hbl hbA hS hi1 dL_law_859 ?_
  refine kw_top (v := .int a1) (by rw [ea1]) ?_
  refine lv_aload_n hx hb dL_law_860 rfl (lv_at hl 0 rfl) ?_
  refine lv_iload hx hb dL_law_861 (lv_at hl 4 rfl) ?_
  refine lv_iconst (v := 2) hx hb dL_law_863 (by decide) ?_
  refine lv_iadd hx hb dL_law_864 ?_
  refine va_sld hx hb hXX hbl hbA hS hi2 dL_law_865 ?_
  refine kw_top (v := .int a2) (by rw [ea2]) ?_
  refine lv_aload_n hx hb dL_law_866 rfl (lv_at hl 3 rfl) ?_
  obtain ⟨hs3, hs4, hE, hkc, hr, hKL⟩ := q_item (B' := B2) hkl (by omega) a1 a2
  have hM := cx3_item EX hfl aL L a1 a2 hs3
  have hm4 := cx4_item (l := l) E am M a1 a2 hs4
  have hT : (fx3_item L a1 a2).1 ≠ 0 → L = L := fun _ => rfl
  generalize (fx3_item L a1 a2).1 = ec at hE hkc hr hM hT
  generalize (fx3_item L a1 a2).2 = r at hr hM
  generalize fx4_item M a1 a2 = y at hkc hr hKL hm4
  refine kcsY (As := [.ref (aL 7 0), .int a1, .int a2, .ref ao]) (rest := []) E.1 (cw_item EW aL L L ao o a1 a2 hM hE hT) hX (vx_cwSW 4 hts gL_law_L_item rfl rfl rfl hdL_item ⟨Nat.le_of_ble_eq_true rfl, Nat.le_of_ble_eq_true rfl⟩) hKs hP hD hS hA hSt [] (mdW cI am M) (law_ls cI cB cS cJ ao aL am o L M) (law_ls cI cB cS cJ ao aL am (if ec = 0 then va_up o 0 r.toInt64 else o) L M).symm rfl rfl hl.1 (Nat.le_of_ble_eq_true rfl) dL_law_867 ⟨hc, hs⟩ (fun H locs hP hD hS => ?_)
  refine lv_istore (lv' := (5, .int (kc 3 1 ec)) :: [(0, .ref b), (1, .ref (aL 7 0)), (2, .ref (am 0)), (3, .ref ao), (4, .int x4)]) hx hb dL_law_870 hl (by decide) rfl (fun ls hl => ?_)
  refine lv_aload_n hx hb dL_law_872 rfl (lv_at hl 3 rfl) ?_
  refine lv_aload_n hx hb dL_law_873 rfl (lv_at hl 1 rfl) ?_
  refine lv_iload hx hb dL_law_874 (lv_at hl 5 rfl) ?_
  refine lv_iconst (v := 1) hx hb dL_law_876 (by decide) ?_
  refine lv_iadd hx hb dL_law_877 ?_
  refine va_sld hx hb hXX hbl hbA hS hi1 dL_law_878 ?_
  refine kw_top (v := .int a1) (by rw [ea1]) ?_
  refine lv_aload_n hx hb dL_law_879 rfl (lv_at hl 1 rfl) ?_
  refine lv_iload hx hb dL_law_880 (lv_at hl 5 rfl) ?_
  refine lv_iconst (v := 2) hx hb dL_law_882 (by decide) ?_
  refine lv_iadd hx hb dL_law_883 ?_
  refine va_sld hx hb hXX hbl hbA hS hi2 dL_law_884 ?_
  refine kw_top (v := .int a2) (by rw [ea2]) ?_
  refine kcI (ci := 4) (q0 := 0) (As := [.int a1, .int a2]) (rest := []) E.1 hm4 hX (cwV 2 hts gL_law_X4_item rfl rfl rfl hdX4_item ⟨Nat.le_of_ble_eq_true rfl, Nat.le_of_ble_eq_true rfl⟩) hKs hK hP hD hS hA _ _ (law_md cI cB cS cJ ao aL am (if ec = 0 then va_up o 0 r.toInt64 else o) L M) (law_md cI cB cS cJ ao aL am (if ec = 0 then va_up o 0 r.toInt64 else o) L y.2).symm rfl rfl rfl rfl hl.1 (Nat.le_of_ble_eq_true rfl) dL_law_885 ⟨hc, hs⟩ (fun H locs hP hD hS => ?_)
  refine lv_istore (lv' := (6, .int y.1) :: [(5, .int (kc 3 1 ec)), (0, .ref b), (1, .ref (aL 7 0)), (2, .ref (am 0)), (3, .ref ao), (4, .int x4)]) hx hb dL_law_888 hl (by decide) rfl (fun ls hl => ?_)
  refine lv_aload_n hx hb dL_law_890 rfl (lv_at hl 4 rfl) ?_
  refine kcI (ci := 4) (q0 := 0) (As := []) (rest := []) E.1 (cx4_thrown (l := l) E am y.2) hX (cwV 0 hts gL_law_X4_thrown rfl rfl rfl hdX4_thrown ⟨Nat.le_of_ble_eq_true rfl, Nat.le_of_ble_eq_true rfl⟩) hKs hK hP hD hS hA _ _ (law_md cI cB cS cJ ao aL am (if ec = 0 then va_up o 0 r.toInt64 else o) L y.2) (law_md cI cB cS cJ ao aL am (if ec = 0 then va_up o 0 r.toInt64 else o) L y.2).symm rfl rfl rfl rfl hl.1 (Nat.le_of_ble_eq_true rfl) dL_law_891 ⟨hc, hs⟩ (fun H locs hP hD hS => ?_)
  refine lv_iload hx hb dL_law_894 (lv_at hl 1 rfl) ?_
  refine lv_icmp_eq (tgt := 901) hx hb dL_law_896 (by decide) (fun _ => ?_) (fun h9 => absurd (show fx4_thrown y.2 = (kc 3 1 ec) from hkc.symm) h9)
  refine lv_iload hx hb dL_law_901 (lv_at hl 1 rfl) ?_
  refine lv_if_ne (tgt := 918) hx hb dL_law_903 (by decide) (fun _ => ?_) (fun h9 => ?_)
  · refine lv_goto (tgt := 1476) hx hb dL_law_918 (by decide) ?_
    exact kk _ _ _ hKL _ _ hP hD hS _ (lv_sub hl [2, 3, 4, 5, 6] rfl)
  · have he : ec = 0 := kc0 (by decide) (by decide) hE h9
    have hr2 := hr he
    rw [if_pos he] at hP hD
    subst hr2
    refine lv_aload_n hx hb dL_law_906 rfl (lv_at hl 5 rfl) ?_
    refine lv_iconst (v := 0) hx hb dL_law_907 (by decide) ?_
    refine va_lald hx hb hK hP 0 3 rfl rfl (by unfold vp_in; decide) dL_law_908 ?_
    refine kw_top (v := .long y.1.toInt64) (by rw [show (0 : Int32).toNatClampNeg = 0 from rfl, va_up_self]) ?_
    refine lv_iload hx hb dL_law_909 (lv_at hl 0 rfl) ?_
    refine lv_i2l (v := y.1.toInt64) hx hb dL_law_911 rfl ?_
    refine W.lcmp hx hb dL_law_912 ?_
    refine lv_if_eq (tgt := 918) hx hb dL_law_913 (by decide) (fun _ => ?_) (fun h8 => absurd (klcmp _) h8)
    refine lv_goto (tgt := 1476) hx hb dL_law_918 (by decide) ?_
    exact kk _ _ _ hKL _ _ hP hD hS _ (lv_sub hl [2, 3, 4, 5, 6] rfl)

set_option maxHeartbeats 4000000 in
set_option maxRecDepth 100000 in
theorem law_record {p : Program} {l : Launch} {e : Env} {s : State} {m : MethodId} {below : List Frame} {meth : Method} {c : Code} {b Ln : Nat} {xs : Nat → Int32} {D : va_G} {cI cB cS cJ : ClassId} {K : State → Prop} {Q : State → Prop} {aL : Nat → Nat → Nat} {am : Nat → Nat} {ao : Nat} {x4 : Int32} {o : Nat → Int64} {L : Nat → St} {M : Md} {H : Heap} {locs : List Loc} {cells slots : Nat} {ls : Array Slot} {B B2 : Int} (C : LC p l s m c b Ln xs D cI cB cS cJ K) (hi1 : vp_in (x4 + 1) Ln) (hi2 : vp_in (x4 + 2) Ln) (hkl : KL B L M) (hB : B + 1000 ≤ B2) (hL : B2 ≤ 1000000000) (hc : cells + 1 ≤ 601024) (hs : slots + 6 ≤ 7293034) (hP : va_P D vwCl (lawW cI cB cS cJ ao aL am o L M) H) (hD : va_D (fun q : Nat => s.heap.size ≤ q) (lawW cI cB cS cJ ao aL am o L M)) (hS : va_S (fun q : Nat => s.heap.size ≤ q) s.heap H locs) (hl : lv_has ls 9 (lv5 b aL am ao x4)) (kk : LK p l e s m below meth c b D cI cB cS cJ aL am ao x4 B2 cells slots Q) : W p l e room_1 s m #[Value.ref b] below meth c H locs cells slots Q (F0 m 921 ls []) := by
  obtain ⟨hx, hb, hml, hown, hts, hXX, hbl, EW, hfl, hKs, hSt⟩ := C
  have EX := EW.1
  have E := EX.1
  have hK := (E.2 s hKs).1
  have hA : ∀ q : Nat, s.heap.size ≤ q → (fun q : Nat => s.heap.size ≤ q) q := fun _ h => h
  have hbA : ¬ (fun q : Nat => s.heap.size ≤ q) b := Nat.not_le.mpr hbl
  have hX : CallFix p m c cL_law 9 s _ wsL_law RL := ⟨hx, hb, hml, hown, hts⟩
  have hl : lv_has ls 9 [(0, .ref b), (1, .ref (aL 7 0)), (2, .ref (am 0)), (3, .ref ao), (4, .int x4)] := hl
  obtain ⟨a1, ea1⟩ : ∃ y, y = xs (x4 + 1).toNatClampNeg := ⟨_, rfl⟩
  obtain ⟨a2, ea2⟩ : ∃ y, y = xs (x4 + 2).toNatClampNeg := ⟨_, rfl⟩
  refine lv_aload_n hx hb dL_law_921 rfl (lv_at hl 1 rfl) ?_
  refine lv_aload_n hx hb dL_law_922 rfl (lv_at hl 0 rfl) ?_
  refine lv_iload hx hb dL_law_923 (lv_at hl 4 rfl) ?_
  refine lv_iconst (v := 1) hx hb dL_law_925 (by decide) ?_
  refine lv_iadd hx hb dL_law_926 ?_
  refine va_sld hx hb hXX hbl hbA hS hi1 dL_law_927 ?_
  refine kw_top (v := .int a1) (by rw [ea1]) ?_
  refine lv_aload_n hx hb dL_law_928 rfl (lv_at hl 0 rfl) ?_
  refine lv_iload hx hb dL_law_929 (lv_at hl 4 rfl) ?_
  refine lv_iconst (v := 2) hx hb dL_law_931 (by decide) ?_
  refine lv_iadd hx hb dL_law_932 ?_
  refine va_sld hx hb hXX hbl hbA hS hi2 dL_law_933 ?_
  refine kw_top (v := .int a2) (by rw [ea2]) ?_
  refine lv_aload_n hx hb dL_law_934 rfl (lv_at hl 3 rfl) ?_
  obtain ⟨hs3, hs4, hE, hkc, hr, hKL⟩ := q_record (B' := B2) hkl (by omega) a1 a2
  have hM := cx3_record EX hfl aL L a1 a2 hs3
  have hm4 := cx4_record (l := l) E am M a1 a2 hs4
  have hT : (fx3_record L a1 a2).1 ≠ 0 → L = L := fun _ => rfl
  generalize (fx3_record L a1 a2).1 = ec at hE hkc hr hM hT
  generalize (fx3_record L a1 a2).2 = r at hr hM
  generalize fx4_record M a1 a2 = y at hkc hr hKL hm4
  refine kcsY (As := [.ref (aL 7 0), .int a1, .int a2, .ref ao]) (rest := []) E.1 (cw_record EW aL L L ao o a1 a2 hM hE hT) hX (vx_cwSW 4 hts gL_law_L_record rfl rfl rfl hdL_record ⟨Nat.le_of_ble_eq_true rfl, Nat.le_of_ble_eq_true rfl⟩) hKs hP hD hS hA hSt [] (mdW cI am M) (law_ls cI cB cS cJ ao aL am o L M) (law_ls cI cB cS cJ ao aL am (if ec = 0 then va_up o 0 r.toInt64 else o) L M).symm rfl rfl hl.1 (Nat.le_of_ble_eq_true rfl) dL_law_935 ⟨hc, hs⟩ (fun H locs hP hD hS => ?_)
  refine lv_istore (lv' := (5, .int (kc 3 1 ec)) :: [(0, .ref b), (1, .ref (aL 7 0)), (2, .ref (am 0)), (3, .ref ao), (4, .int x4)]) hx hb dL_law_938 hl (by decide) rfl (fun ls hl => ?_)
  refine lv_aload_n hx hb dL_law_940 rfl (lv_at hl 3 rfl) ?_
  refine lv_aload_n hx hb dL_law_941 rfl (lv_at hl 1 rfl) ?_
  refine lv_iload hx hb dL_law_942 (lv_at hl 5 rfl) ?_
  refine lv_iconst (v := 1) hx hb dL_law_944 (by decide) ?_
  refine lv_iadd hx hb dL_law_945 ?_
  refine va_sld hx hb hXX hbl hbA hS hi1 dL_law_946 ?_
  refine kw_top (v := .int a1) (by rw [ea1]) ?_
  refine lv_aload_n hx hb dL_law_947 rfl (lv_at hl 1 rfl) ?_
  refine lv_iload hx hb dL_law_948 (lv_at hl 5 rfl) ?_
  refine lv_iconst (v := 2) hx hb dL_law_950 (by decide) ?_
  refine lv_iadd hx hb dL_law_951 ?_
  refine va_sld hx hb hXX hbl hbA hS hi2 dL_law_952 ?_
  refine kw_top (v := .int a2) (by rw [ea2]) ?_
  refine kcI (ci := 4) (q0 := 0) (As := [.int a1, .int a2]) (rest := []) E.1 hm4 hX (cwV 2 hts gL_law_X4_record rfl rfl rfl hdX4_record ⟨Nat.le_of_ble_eq_true rfl, Nat.le_of_ble_eq_true rfl⟩) hKs hK hP hD hS hA _ _ (law_md cI cB cS cJ ao aL am (if ec = 0 then va_up o 0 r.toInt64 else o) L M) (law_md cI cB cS cJ ao aL am (if ec = 0 then va_up o 0 r.toInt64 else o) L y.2).symm rfl rfl rfl rfl hl.1 (Nat.le_of_ble_eq_true rfl) dL_law_953 ⟨hc, hs⟩ (fun H locs hP hD hS => ?_)
  refine lv_istore (lv' := (6, .int y.1) :: [(5, .int (kc 3 1 ec)), (0, .ref b), (1, .ref (aL 7 0)), (2, .ref (am 0)), (3, .ref ao), (4, .int x4)]) hx hb dL_law_956 hl (by decide) rfl (fun ls hl => ?_)
  refine lv_aload_n hx hb dL_law_958 rfl (lv_at hl 4 rfl) ?_
  refine kcI (ci := 4) (q0 := 0) (As := []) (rest := []) E.1 (cx4_thrown (l := l) E am y.2) hX (cwV 0 hts gL_law_X4_thrown rfl rfl rfl hdX4_thrown ⟨Nat.le_of_ble_eq_true rfl, Nat.le_of_ble_eq_true rfl⟩) hKs hK hP hD hS hA _ _ (law_md cI cB cS cJ ao aL am (if ec = 0 then va_up o 0 r.toInt64 else o) L y.2) (law_md cI cB cS cJ ao aL am (if ec = 0 then va_up o 0 r.toInt64 else o) L y.2).symm rfl rfl rfl rfl hl.1 (Nat.le_of_ble_eq_true rfl) dL_law_959 ⟨hc, hs⟩ (fun H locs hP hD hS => ?_)
  refine lv_iload hx hb dL_law_962 (lv_at hl 1 rfl) ?_
  refine lv_icmp_eq (tgt := 969) hx hb dL_law_964 (by decide) (fun _ => ?_) (fun h9 => absurd (show fx4_thrown y.2 = (kc 3 1 ec) from hkc.symm) h9)
  refine lv_iload hx hb dL_law_969 (lv_at hl 1 rfl) ?_
  refine lv_if_ne (tgt := 986) hx hb dL_law_971 (by decide) (fun _ => ?_) (fun h9 => ?_)
  · refine lv_goto (tgt := 1476) hx hb dL_law_986 (by decide) ?_
    exact kk _ _ _ hKL _ _ hP hD hS _ (lv_sub hl [2, 3, 4, 5, 6] rfl)
  · have he : ec = 0 := kc0 (by decide) (by decide) hE h9
    have hr2 := hr he
    rw [if_pos he] at hP hD
    subst hr2
    refine lv_aload_n hx hb dL_law_974 rfl (lv_at hl 5 rfl) ?_
    refine lv_iconst (v := 0) hx hb dL_law_975 (by decide) ?_
    refine va_lald hx hb hK hP 0 3 rfl rfl (by unfold vp_in; decide) dL_law_976 ?_
    refine kw_top (v := .long y.1.toInt64) (by rw [show (0 : Int32).toNatClampNeg = 0 from rfl, va_up_self]) ?_
    refine lv_iload hx hb dL_law_977 (lv_at hl 0 rfl) ?_
    refine lv_i2l (v := y.1.toInt64) hx hb dL_law_979 rfl ?_
    refine W.lcmp hx hb dL_law_980 ?_
    refine lv_if_eq (tgt := 986) hx hb dL_law_981 (by decide) (fun _ => ?_) (fun h8 => absurd (klcmp _) h8)
    refine lv_goto (tgt := 1476) hx hb dL_law_986 (by decide) ?_
    exact kk _ _ _ hKL _ _ hP hD hS _ (lv_sub hl [2, 3, 4, 5, 6] rfl)

set_option maxHeartbeats 4000000 in
set_option maxRecDepth 100000 in
theorem law_numberAt {p : Program} {l : Launch} {e : Env} {s : State} {m : MethodId} {below : List Frame} {meth : Method} {c : Code} {b Ln : Nat} {xs : Nat → Int32} {D : va_G} {cI cB cS cJ : ClassId} {K : State → Prop} {Q : State → Prop} {aL : Nat → Nat → Nat} {am : Nat → Nat} {ao : Nat} {x4 : Int32} {o : Nat → Int64} {L : Nat → St} {M : Md} {H : Heap} {locs : List Loc} {cells slots : Nat} {ls : Array Slot} {B B2 : Int} (C : LC p l s m c b Ln xs D cI cB cS cJ K) (hi1 : vp_in (x4 + 1) Ln) (hi2 : vp_in (x4 + 2) Ln) (hkl : KL B L M) (hB : B + 1000 ≤ B2) (hL : B2 ≤ 1000000000) (hc : cells + 1 ≤ 601024) (hs : slots + 6 ≤ 7293034) (hP : va_P D vwCl (lawW cI cB cS cJ ao aL am o L M) H) (hD : va_D (fun q : Nat => s.heap.size ≤ q) (lawW cI cB cS cJ ao aL am o L M)) (hS : va_S (fun q : Nat => s.heap.size ≤ q) s.heap H locs) (hl : lv_has ls 9 (lv5 b aL am ao x4)) (kk : LK p l e s m below meth c b D cI cB cS cJ aL am ao x4 B2 cells slots Q) : W p l e room_1 s m #[Value.ref b] below meth c H locs cells slots Q (F0 m 989 ls []) := by
  obtain ⟨hx, hb, hml, hown, hts, hXX, hbl, EW, hfl, hKs, hSt⟩ := C
  have EX := EW.1
  have E := EX.1
  have hK := (E.2 s hKs).1
  have hA : ∀ q : Nat, s.heap.size ≤ q → (fun q : Nat => s.heap.size ≤ q) q := fun _ h => h
  have hbA : ¬ (fun q : Nat => s.heap.size ≤ q) b := Nat.not_le.mpr hbl
  have hX : CallFix p m c cL_law 9 s _ wsL_law RL := ⟨hx, hb, hml, hown, hts⟩
  have hl : lv_has ls 9 [(0, .ref b), (1, .ref (aL 7 0)), (2, .ref (am 0)), (3, .ref ao), (4, .int x4)] := hl
  obtain ⟨a1, ea1⟩ : ∃ y, y = xs (x4 + 1).toNatClampNeg := ⟨_, rfl⟩
  obtain ⟨a2, ea2⟩ : ∃ y, y = xs (x4 + 2).toNatClampNeg := ⟨_, rfl⟩
  by_cases hz : a2 = 0
  · refine lv_aload_n hx hb dL_law_989 rfl (lv_at hl 1 rfl) ?_
    refine lv_aload_n hx hb dL_law_990 rfl (lv_at hl 0 rfl) ?_
    refine lv_iload hx hb dL_law_991 (lv_at hl 4 rfl) ?_
    refine lv_iconst (v := 1) hx hb dL_law_993 (by decide) ?_
    refine lv_iadd hx hb dL_law_994 ?_
    refine va_sld hx hb hXX hbl hbA hS hi1 dL_law_995 ?_
    refine kw_top (v := .int a1) (by rw [ea1]) ?_
    refine lv_aload_n hx hb dL_law_996 rfl (lv_at hl 0 rfl) ?_
    refine lv_iload hx hb dL_law_997 (lv_at hl 4 rfl) ?_
    refine lv_iconst (v := 2) hx hb dL_law_999 (by decide) ?_
    refine lv_iadd hx hb dL_law_1000 ?_
    refine va_sld hx hb hXX hbl hbA hS hi2 dL_law_1001 ?_
    refine kw_top (v := .int a2) (by rw [ea2]) ?_
    refine lv_if_eq (tgt := 1009) hx hb dL_law_1002 (by decide) (fun _ => ?_) (fun h9 => absurd hz h9)
    refine lv_iconst (v := 0) hx hb dL_law_1009 (by decide) ?_
    refine lv_aload_n hx hb dL_law_1010 rfl (lv_at hl 3 rfl) ?_
    obtain ⟨hs4, hE, hkc, hr, hKL⟩ := q_numberAt (B' := B2) hkl (by omega) a1 (0 : Int32)
    have hM := cx3_numberAt EX hfl aL L a1 (0 : Int32)
    have hm4 := cx4_numberAt (l := l) E am M a1 (0 : Int32) hs4
    have hT : (fx3_numberAt L a1 (0 : Int32)).1 ≠ 0 → L = L := fun _ => rfl
    generalize (fx3_numberAt L a1 (0 : Int32)).1 = ec at hE hkc hr hM hT
    generalize (fx3_numberAt L a1 (0 : Int32)).2 = r at hr hM
    generalize fx4_numberAt M a1 (0 : Int32) = y at hkc hr hKL hm4
    refine kcsY (As := [.ref (aL 7 0), .int a1, .int 0, .ref ao]) (rest := []) E.1 (cw_numberAt EW aL L L ao o a1 (0 : Int32) hM hE hT) hX (vx_cwSW 4 hts gL_law_L_numberAt rfl rfl rfl hdL_numberAt ⟨Nat.le_of_ble_eq_true rfl, Nat.le_of_ble_eq_true rfl⟩) hKs hP hD hS hA hSt [] (mdW cI am M) (law_ls cI cB cS cJ ao aL am o L M) (law_ls cI cB cS cJ ao aL am (if ec = 0 then va_up o 0 r.toInt64 else o) L M).symm rfl rfl hl.1 (Nat.le_of_ble_eq_true rfl) dL_law_1011 ⟨hc, hs⟩ (fun H locs hP hD hS => ?_)
    refine lv_istore (lv' := (5, .int (kc 4 4 ec)) :: [(0, .ref b), (1, .ref (aL 7 0)), (2, .ref (am 0)), (3, .ref ao), (4, .int x4)]) hx hb dL_law_1014 hl (by decide) rfl (fun ls hl => ?_)
    refine lv_aload_n hx hb dL_law_1016 rfl (lv_at hl 3 rfl) ?_
    refine lv_aload_n hx hb dL_law_1017 rfl (lv_at hl 1 rfl) ?_
    refine lv_iload hx hb dL_law_1018 (lv_at hl 5 rfl) ?_
    refine lv_iconst (v := 1) hx hb dL_law_1020 (by decide) ?_
    refine lv_iadd hx hb dL_law_1021 ?_
    refine va_sld hx hb hXX hbl hbA hS hi1 dL_law_1022 ?_
    refine kw_top (v := .int a1) (by rw [ea1]) ?_
    refine lv_aload_n hx hb dL_law_1023 rfl (lv_at hl 1 rfl) ?_
    refine lv_iload hx hb dL_law_1024 (lv_at hl 5 rfl) ?_
    refine lv_iconst (v := 2) hx hb dL_law_1026 (by decide) ?_
    refine lv_iadd hx hb dL_law_1027 ?_
    refine va_sld hx hb hXX hbl hbA hS hi2 dL_law_1028 ?_
    refine kw_top (v := .int a2) (by rw [ea2]) ?_
    refine lv_if_eq (tgt := 1036) hx hb dL_law_1029 (by decide) (fun _ => ?_) (fun h9 => absurd hz h9)
    refine lv_iconst (v := 0) hx hb dL_law_1036 (by decide) ?_
    refine kcI (ci := 4) (q0 := 0) (As := [.int a1, .int 0]) (rest := []) E.1 hm4 hX (cwV 2 hts gL_law_X4_numberAt rfl rfl rfl hdX4_numberAt ⟨Nat.le_of_ble_eq_true rfl, Nat.le_of_ble_eq_true rfl⟩) hKs hK hP hD hS hA _ _ (law_md cI cB cS cJ ao aL am (if ec = 0 then va_up o 0 r.toInt64 else o) L M) (law_md cI cB cS cJ ao aL am (if ec = 0 then va_up o 0 r.toInt64 else o) L y.2).symm rfl rfl rfl rfl hl.1 (Nat.le_of_ble_eq_true rfl) dL_law_1037 ⟨hc, hs⟩ (fun H locs hP hD hS => ?_)
    refine lv_istore (lv' := (6, .int y.1) :: [(5, .int (kc 4 4 ec)), (0, .ref b), (1, .ref (aL 7 0)), (2, .ref (am 0)), (3, .ref ao), (4, .int x4)]) hx hb dL_law_1040 hl (by decide) rfl (fun ls hl => ?_)
    refine lv_aload_n hx hb dL_law_1042 rfl (lv_at hl 4 rfl) ?_
    refine kcI (ci := 4) (q0 := 0) (As := []) (rest := []) E.1 (cx4_thrown (l := l) E am y.2) hX (cwV 0 hts gL_law_X4_thrown rfl rfl rfl hdX4_thrown ⟨Nat.le_of_ble_eq_true rfl, Nat.le_of_ble_eq_true rfl⟩) hKs hK hP hD hS hA _ _ (law_md cI cB cS cJ ao aL am (if ec = 0 then va_up o 0 r.toInt64 else o) L y.2) (law_md cI cB cS cJ ao aL am (if ec = 0 then va_up o 0 r.toInt64 else o) L y.2).symm rfl rfl rfl rfl hl.1 (Nat.le_of_ble_eq_true rfl) dL_law_1043 ⟨hc, hs⟩ (fun H locs hP hD hS => ?_)
    refine lv_iload hx hb dL_law_1046 (lv_at hl 1 rfl) ?_
    refine lv_icmp_eq (tgt := 1053) hx hb dL_law_1048 (by decide) (fun _ => ?_) (fun h9 => absurd (show fx4_thrown y.2 = (kc 4 4 ec) from hkc.symm) h9)
    refine lv_iload hx hb dL_law_1053 (lv_at hl 1 rfl) ?_
    refine lv_if_ne (tgt := 1070) hx hb dL_law_1055 (by decide) (fun _ => ?_) (fun h9 => ?_)
    · refine lv_goto (tgt := 1476) hx hb dL_law_1070 (by decide) ?_
      exact kk _ _ _ hKL _ _ hP hD hS _ (lv_sub hl [2, 3, 4, 5, 6] rfl)
    · have he : ec = 0 := kc0 (by decide) (by decide) hE h9
      have hr2 := hr he
      rw [if_pos he] at hP hD
      subst hr2
      refine lv_aload_n hx hb dL_law_1058 rfl (lv_at hl 5 rfl) ?_
      refine lv_iconst (v := 0) hx hb dL_law_1059 (by decide) ?_
      refine va_lald hx hb hK hP 0 3 rfl rfl (by unfold vp_in; decide) dL_law_1060 ?_
      refine kw_top (v := .long y.1.toInt64) (by rw [show (0 : Int32).toNatClampNeg = 0 from rfl, va_up_self]) ?_
      refine lv_iload hx hb dL_law_1061 (lv_at hl 0 rfl) ?_
      refine lv_i2l (v := y.1.toInt64) hx hb dL_law_1063 rfl ?_
      refine W.lcmp hx hb dL_law_1064 ?_
      refine lv_if_eq (tgt := 1070) hx hb dL_law_1065 (by decide) (fun _ => ?_) (fun h8 => absurd (klcmp _) h8)
      refine lv_goto (tgt := 1476) hx hb dL_law_1070 (by decide) ?_
      exact kk _ _ _ hKL _ _ hP hD hS _ (lv_sub hl [2, 3, 4, 5, 6] rfl)
  · refine lv_aload_n hx hb dL_law_989 rfl (lv_at hl 1 rfl) ?_
    refine lv_aload_n hx hb dL_law_990 rfl (lv_at hl 0 rfl) ?_
    refine lv_iload hx hb dL_law_991 (lv_at hl 4 rfl) ?_
    refine lv_iconst (v := 1) hx hb dL_law_993 (by decide) ?_
    refine lv_iadd hx hb dL_law_994 ?_
    refine va_sld hx hb hXX hbl hbA hS hi1 dL_law_995 ?_
    refine kw_top (v := .int a1) (by rw [ea1]) ?_
    refine lv_aload_n hx hb dL_law_996 rfl (lv_at hl 0 rfl) ?_
    refine lv_iload hx hb dL_law_997 (lv_at hl 4 rfl) ?_
    refine lv_iconst (v := 2) hx hb dL_law_999 (by decide) ?_
    refine lv_iadd hx hb dL_law_1000 ?_
    refine va_sld hx hb hXX hbl hbA hS hi2 dL_law_1001 ?_
    refine kw_top (v := .int a2) (by rw [ea2]) ?_
    refine lv_if_eq (tgt := 1009) hx hb dL_law_1002 (by decide) (fun h9 => absurd h9 hz) (fun _ => ?_)
    refine lv_iconst (v := 1) hx hb dL_law_1005 (by decide) ?_
    refine lv_goto (tgt := 1010) hx hb dL_law_1006 (by decide) ?_
    refine lv_aload_n hx hb dL_law_1010 rfl (lv_at hl 3 rfl) ?_
    obtain ⟨hs4, hE, hkc, hr, hKL⟩ := q_numberAt (B' := B2) hkl (by omega) a1 (1 : Int32)
    have hM := cx3_numberAt EX hfl aL L a1 (1 : Int32)
    have hm4 := cx4_numberAt (l := l) E am M a1 (1 : Int32) hs4
    have hT : (fx3_numberAt L a1 (1 : Int32)).1 ≠ 0 → L = L := fun _ => rfl
    generalize (fx3_numberAt L a1 (1 : Int32)).1 = ec at hE hkc hr hM hT
    generalize (fx3_numberAt L a1 (1 : Int32)).2 = r at hr hM
    generalize fx4_numberAt M a1 (1 : Int32) = y at hkc hr hKL hm4
    refine kcsY (As := [.ref (aL 7 0), .int a1, .int 1, .ref ao]) (rest := []) E.1 (cw_numberAt EW aL L L ao o a1 (1 : Int32) hM hE hT) hX (vx_cwSW 4 hts gL_law_L_numberAt rfl rfl rfl hdL_numberAt ⟨Nat.le_of_ble_eq_true rfl, Nat.le_of_ble_eq_true rfl⟩) hKs hP hD hS hA hSt [] (mdW cI am M) (law_ls cI cB cS cJ ao aL am o L M) (law_ls cI cB cS cJ ao aL am (if ec = 0 then va_up o 0 r.toInt64 else o) L M).symm rfl rfl hl.1 (Nat.le_of_ble_eq_true rfl) dL_law_1011 ⟨hc, hs⟩ (fun H locs hP hD hS => ?_)
    refine lv_istore (lv' := (5, .int (kc 4 4 ec)) :: [(0, .ref b), (1, .ref (aL 7 0)), (2, .ref (am 0)), (3, .ref ao), (4, .int x4)]) hx hb dL_law_1014 hl (by decide) rfl (fun ls hl => ?_)
    refine lv_aload_n hx hb dL_law_1016 rfl (lv_at hl 3 rfl) ?_
    refine lv_aload_n hx hb dL_law_1017 rfl (lv_at hl 1 rfl) ?_
    refine lv_iload hx hb dL_law_1018 (lv_at hl 5 rfl) ?_
    refine lv_iconst (v := 1) hx hb dL_law_1020 (by decide) ?_
    refine lv_iadd hx hb dL_law_1021 ?_
    refine va_sld hx hb hXX hbl hbA hS hi1 dL_law_1022 ?_
    refine kw_top (v := .int a1) (by rw [ea1]) ?_
    refine lv_aload_n hx hb dL_law_1023 rfl (lv_at hl 1 rfl) ?_
    refine lv_iload hx hb dL_law_1024 (lv_at hl 5 rfl) ?_
    refine lv_iconst (v := 2) hx hb dL_law_1026 (by decide) ?_
    refine lv_iadd hx hb dL_law_1027 ?_
    refine va_sld hx hb hXX hbl hbA hS hi2 dL_law_1028 ?_
    refine kw_top (v := .int a2) (by rw [ea2]) ?_
    refine lv_if_eq (tgt := 1036) hx hb dL_law_1029 (by decide) (fun h9 => absurd h9 hz) (fun _ => ?_)
    refine lv_iconst (v := 1) hx hb dL_law_1032 (by decide) ?_
    refine lv_goto (tgt := 1037) hx hb dL_law_1033 (by decide) ?_
    refine kcI (ci := 4) (q0 := 0) (As := [.int a1, .int 1]) (rest := []) E.1 hm4 hX (cwV 2 hts gL_law_X4_numberAt rfl rfl rfl hdX4_numberAt ⟨Nat.le_of_ble_eq_true rfl, Nat.le_of_ble_eq_true rfl⟩) hKs hK hP hD hS hA _ _ (law_md cI cB cS cJ ao aL am (if ec = 0 then va_up o 0 r.toInt64 else o) L M) (law_md cI cB cS cJ ao aL am (if ec = 0 then va_up o 0 r.toInt64 else o) L y.2).symm rfl rfl rfl rfl hl.1 (Nat.le_of_ble_eq_true rfl) dL_law_1037 ⟨hc, hs⟩ (fun H locs hP hD hS => ?_)
    refine lv_istore (lv' := (6, .int y.1) :: [(5, .int (kc 4 4 ec)), (0, .ref b), (1, .ref (aL 7 0)), (2, .ref (am 0)), (3, .ref ao), (4, .int x4)]) hx hb dL_law_1040 hl (by decide) rfl (fun ls hl => ?_)
    refine lv_aload_n hx hb dL_law_1042 rfl (lv_at hl 4 rfl) ?_
    refine kcI (ci := 4) (q0 := 0) (As := []) (rest := []) E.1 (cx4_thrown (l := l) E am y.2) hX (cwV 0 hts gL_law_X4_thrown rfl rfl rfl hdX4_thrown ⟨Nat.le_of_ble_eq_true rfl, Nat.le_of_ble_eq_true rfl⟩) hKs hK hP hD hS hA _ _ (law_md cI cB cS cJ ao aL am (if ec = 0 then va_up o 0 r.toInt64 else o) L y.2) (law_md cI cB cS cJ ao aL am (if ec = 0 then va_up o 0 r.toInt64 else o) L y.2).symm rfl rfl rfl rfl hl.1 (Nat.le_of_ble_eq_true rfl) dL_law_1043 ⟨hc, hs⟩ (fun H locs hP hD hS => ?_)
    refine lv_iload hx hb dL_law_1046 (lv_at hl 1 rfl) ?_
    refine lv_icmp_eq (tgt := 1053) hx hb dL_law_1048 (by decide) (fun _ => ?_) (fun h9 => absurd (show fx4_thrown y.2 = (kc 4 4 ec) from hkc.symm) h9)
    refine lv_iload hx hb dL_law_1053 (lv_at hl 1 rfl) ?_
    refine lv_if_ne (tgt := 1070) hx hb dL_law_1055 (by decide) (fun _ => ?_) (fun h9 => ?_)
    · refine lv_goto (tgt := 1476) hx hb dL_law_1070 (by decide) ?_
      exact kk _ _ _ hKL _ _ hP hD hS _ (lv_sub hl [2, 3, 4, 5, 6] rfl)
    · have he : ec = 0 := kc0 (by decide) (by decide) hE h9
      have hr2 := hr he
      rw [if_pos he] at hP hD
      subst hr2
      refine lv_aload_n hx hb dL_law_1058 rfl (lv_at hl 5 rfl) ?_
      refine lv_iconst (v := 0) hx hb dL_law_1059 (by decide) ?_
      refine va_lald hx hb hK hP 0 3 rfl rfl (by unfold vp_in; decide) dL_law_1060 ?_
      refine kw_top (v := .long y.1.toInt64) (by rw [show (0 : Int32).toNatClampNeg = 0 from rfl, va_up_self]) ?_
      refine lv_iload hx hb dL_law_1061 (lv_at hl 0 rfl) ?_
      refine lv_i2l (v := y.1.toInt64) hx hb dL_law_1063 rfl ?_
      refine W.lcmp hx hb dL_law_1064 ?_
      refine lv_if_eq (tgt := 1070) hx hb dL_law_1065 (by decide) (fun _ => ?_) (fun h8 => absurd (klcmp _) h8)
      refine lv_goto (tgt := 1476) hx hb dL_law_1070 (by decide) ?_
      exact kk _ _ _ hKL _ _ hP hD hS _ (lv_sub hl [2, 3, 4, 5, 6] rfl)

set_option maxHeartbeats 4000000 in
set_option maxRecDepth 100000 in
theorem law_counter {p : Program} {l : Launch} {e : Env} {s : State} {m : MethodId} {below : List Frame} {meth : Method} {c : Code} {b Ln : Nat} {xs : Nat → Int32} {D : va_G} {cI cB cS cJ : ClassId} {K : State → Prop} {Q : State → Prop} {aL : Nat → Nat → Nat} {am : Nat → Nat} {ao : Nat} {x4 : Int32} {o : Nat → Int64} {L : Nat → St} {M : Md} {H : Heap} {locs : List Loc} {cells slots : Nat} {ls : Array Slot} {B B2 : Int} (C : LC p l s m c b Ln xs D cI cB cS cJ K) (hi1 : vp_in (x4 + 1) Ln) (hkl : KL B L M) (hB : B + 1000 ≤ B2) (hL : B2 ≤ 1000000000) (hc : cells + 1 ≤ 601024) (hs : slots + 6 ≤ 7293034) (hP : va_P D vwCl (lawW cI cB cS cJ ao aL am o L M) H) (hD : va_D (fun q : Nat => s.heap.size ≤ q) (lawW cI cB cS cJ ao aL am o L M)) (hS : va_S (fun q : Nat => s.heap.size ≤ q) s.heap H locs) (hl : lv_has ls 9 (lv5 b aL am ao x4)) (kk : LK p l e s m below meth c b D cI cB cS cJ aL am ao x4 B2 cells slots Q) : W p l e room_1 s m #[Value.ref b] below meth c H locs cells slots Q (F0 m 1073 ls []) := by
  obtain ⟨hx, hb, hml, hown, hts, hXX, hbl, EW, hfl, hKs, hSt⟩ := C
  have EX := EW.1
  have E := EX.1
  have hK := (E.2 s hKs).1
  have hA : ∀ q : Nat, s.heap.size ≤ q → (fun q : Nat => s.heap.size ≤ q) q := fun _ h => h
  have hbA : ¬ (fun q : Nat => s.heap.size ≤ q) b := Nat.not_le.mpr hbl
  have hX : CallFix p m c cL_law 9 s _ wsL_law RL := ⟨hx, hb, hml, hown, hts⟩
  have hl : lv_has ls 9 [(0, .ref b), (1, .ref (aL 7 0)), (2, .ref (am 0)), (3, .ref ao), (4, .int x4)] := hl
  obtain ⟨a1, ea1⟩ : ∃ y, y = xs (x4 + 1).toNatClampNeg := ⟨_, rfl⟩
  refine lv_aload_n hx hb dL_law_1073 rfl (lv_at hl 1 rfl) ?_
  refine lv_aload_n hx hb dL_law_1074 rfl (lv_at hl 0 rfl) ?_
  refine lv_iload hx hb dL_law_1075 (lv_at hl 4 rfl) ?_
  refine lv_iconst (v := 1) hx hb dL_law_1077 (by decide) ?_
  refine lv_iadd hx hb dL_law_1078 ?_
  refine va_sld hx hb hXX hbl hbA hS hi1 dL_law_1079 ?_
  refine kw_top (v := .int a1) (by rw [ea1]) ?_
  refine lv_aload_n hx hb dL_law_1080 rfl (lv_at hl 3 rfl) ?_
  obtain ⟨hs4, hE, hkc, hr, hKL⟩ := q_counter (B' := B2) hkl (by omega) a1
  have hM := cx3_counter EX hfl aL L a1
  have hm4 := cx4_counter (l := l) E am M a1 hs4
  have hT : (fx3_counter L a1).1 ≠ 0 → L = L := fun _ => rfl
  generalize (fx3_counter L a1).1 = ec at hE hkc hr hM hT
  generalize (fx3_counter L a1).2 = r at hr hM
  generalize fx4_counter M a1 = y at hkc hr hKL hm4
  refine kcsY (As := [.ref (aL 7 0), .int a1, .ref ao]) (rest := []) E.1 (cw_counter EW aL L L ao o a1 hM hE hT) hX (vx_cwSW 3 hts gL_law_L_counter rfl rfl rfl hdL_counter ⟨Nat.le_of_ble_eq_true rfl, Nat.le_of_ble_eq_true rfl⟩) hKs hP hD hS hA hSt [] (mdW cI am M) (law_ls cI cB cS cJ ao aL am o L M) (law_ls cI cB cS cJ ao aL am (if ec = 0 then va_up o 0 r.toInt64 else o) L M).symm rfl rfl hl.1 (Nat.le_of_ble_eq_true rfl) dL_law_1081 ⟨hc, hs⟩ (fun H locs hP hD hS => ?_)
  refine lv_istore (lv' := (5, .int (kc 1 1 ec)) :: [(0, .ref b), (1, .ref (aL 7 0)), (2, .ref (am 0)), (3, .ref ao), (4, .int x4)]) hx hb dL_law_1084 hl (by decide) rfl (fun ls hl => ?_)
  refine lv_aload_n hx hb dL_law_1086 rfl (lv_at hl 3 rfl) ?_
  refine lv_aload_n hx hb dL_law_1087 rfl (lv_at hl 1 rfl) ?_
  refine lv_iload hx hb dL_law_1088 (lv_at hl 5 rfl) ?_
  refine lv_iconst (v := 1) hx hb dL_law_1090 (by decide) ?_
  refine lv_iadd hx hb dL_law_1091 ?_
  refine va_sld hx hb hXX hbl hbA hS hi1 dL_law_1092 ?_
  refine kw_top (v := .int a1) (by rw [ea1]) ?_
  refine kcI (ci := 4) (q0 := 0) (As := [.int a1]) (rest := []) E.1 hm4 hX (cwV 1 hts gL_law_X4_counter rfl rfl rfl hdX4_counter ⟨Nat.le_of_ble_eq_true rfl, Nat.le_of_ble_eq_true rfl⟩) hKs hK hP hD hS hA _ _ (law_md cI cB cS cJ ao aL am (if ec = 0 then va_up o 0 r.toInt64 else o) L M) (law_md cI cB cS cJ ao aL am (if ec = 0 then va_up o 0 r.toInt64 else o) L y.2).symm rfl rfl rfl rfl hl.1 (Nat.le_of_ble_eq_true rfl) dL_law_1093 ⟨hc, hs⟩ (fun H locs hP hD hS => ?_)
  refine lv_istore (lv' := (6, .int y.1) :: [(5, .int (kc 1 1 ec)), (0, .ref b), (1, .ref (aL 7 0)), (2, .ref (am 0)), (3, .ref ao), (4, .int x4)]) hx hb dL_law_1096 hl (by decide) rfl (fun ls hl => ?_)
  refine lv_aload_n hx hb dL_law_1098 rfl (lv_at hl 4 rfl) ?_
  refine kcI (ci := 4) (q0 := 0) (As := []) (rest := []) E.1 (cx4_thrown (l := l) E am y.2) hX (cwV 0 hts gL_law_X4_thrown rfl rfl rfl hdX4_thrown ⟨Nat.le_of_ble_eq_true rfl, Nat.le_of_ble_eq_true rfl⟩) hKs hK hP hD hS hA _ _ (law_md cI cB cS cJ ao aL am (if ec = 0 then va_up o 0 r.toInt64 else o) L y.2) (law_md cI cB cS cJ ao aL am (if ec = 0 then va_up o 0 r.toInt64 else o) L y.2).symm rfl rfl rfl rfl hl.1 (Nat.le_of_ble_eq_true rfl) dL_law_1099 ⟨hc, hs⟩ (fun H locs hP hD hS => ?_)
  refine lv_iload hx hb dL_law_1102 (lv_at hl 1 rfl) ?_
  refine lv_icmp_eq (tgt := 1109) hx hb dL_law_1104 (by decide) (fun _ => ?_) (fun h9 => absurd (show fx4_thrown y.2 = (kc 1 1 ec) from hkc.symm) h9)
  refine lv_iload hx hb dL_law_1109 (lv_at hl 1 rfl) ?_
  refine lv_if_ne (tgt := 1126) hx hb dL_law_1111 (by decide) (fun _ => ?_) (fun h9 => ?_)
  · refine lv_goto (tgt := 1476) hx hb dL_law_1126 (by decide) ?_
    exact kk _ _ _ hKL _ _ hP hD hS _ (lv_sub hl [2, 3, 4, 5, 6] rfl)
  · have he : ec = 0 := kc0 (by decide) (by decide) hE h9
    have hr2 := hr he
    rw [if_pos he] at hP hD
    subst hr2
    refine lv_aload_n hx hb dL_law_1114 rfl (lv_at hl 5 rfl) ?_
    refine lv_iconst (v := 0) hx hb dL_law_1115 (by decide) ?_
    refine va_lald hx hb hK hP 0 3 rfl rfl (by unfold vp_in; decide) dL_law_1116 ?_
    refine kw_top (v := .long y.1.toInt64) (by rw [show (0 : Int32).toNatClampNeg = 0 from rfl, va_up_self]) ?_
    refine lv_iload hx hb dL_law_1117 (lv_at hl 0 rfl) ?_
    refine lv_i2l (v := y.1.toInt64) hx hb dL_law_1119 rfl ?_
    refine W.lcmp hx hb dL_law_1120 ?_
    refine lv_if_eq (tgt := 1126) hx hb dL_law_1121 (by decide) (fun _ => ?_) (fun h8 => absurd (klcmp _) h8)
    refine lv_goto (tgt := 1476) hx hb dL_law_1126 (by decide) ?_
    exact kk _ _ _ hKL _ _ hP hD hS _ (lv_sub hl [2, 3, 4, 5, 6] rfl)

set_option maxHeartbeats 4000000 in
set_option maxRecDepth 100000 in
theorem law_reconcile {p : Program} {l : Launch} {e : Env} {s : State} {m : MethodId} {below : List Frame} {meth : Method} {c : Code} {b Ln : Nat} {xs : Nat → Int32} {D : va_G} {cI cB cS cJ : ClassId} {K : State → Prop} {Q : State → Prop} {aL : Nat → Nat → Nat} {am : Nat → Nat} {ao : Nat} {x4 : Int32} {o : Nat → Int64} {L : Nat → St} {M : Md} {H : Heap} {locs : List Loc} {cells slots : Nat} {ls : Array Slot} {B B2 : Int} (C : LC p l s m c b Ln xs D cI cB cS cJ K) (hi1 : vp_in (x4 + 1) Ln) (hkl : KL B L M) (hB : B + 1000 ≤ B2) (hL : B2 ≤ 1000000000) (hc : cells + 1 ≤ 601024) (hs : slots + 6 ≤ 7293034) (hP : va_P D vwCl (lawW cI cB cS cJ ao aL am o L M) H) (hD : va_D (fun q : Nat => s.heap.size ≤ q) (lawW cI cB cS cJ ao aL am o L M)) (hS : va_S (fun q : Nat => s.heap.size ≤ q) s.heap H locs) (hl : lv_has ls 9 (lv5 b aL am ao x4)) (kk : LK p l e s m below meth c b D cI cB cS cJ aL am ao x4 B2 cells slots Q) : W p l e room_1 s m #[Value.ref b] below meth c H locs cells slots Q (F0 m 1129 ls []) := by
  obtain ⟨hx, hb, hml, hown, hts, hXX, hbl, EW, hfl, hKs, hSt⟩ := C
  have EX := EW.1
  have E := EX.1
  have hK := (E.2 s hKs).1
  have hA : ∀ q : Nat, s.heap.size ≤ q → (fun q : Nat => s.heap.size ≤ q) q := fun _ h => h
  have hbA : ¬ (fun q : Nat => s.heap.size ≤ q) b := Nat.not_le.mpr hbl
  have hX : CallFix p m c cL_law 9 s _ wsL_law RL := ⟨hx, hb, hml, hown, hts⟩
  have hl : lv_has ls 9 [(0, .ref b), (1, .ref (aL 7 0)), (2, .ref (am 0)), (3, .ref ao), (4, .int x4)] := hl
  obtain ⟨a1, ea1⟩ : ∃ y, y = xs (x4 + 1).toNatClampNeg := ⟨_, rfl⟩
  by_cases hz : a1 = 0
  · refine lv_aload_n hx hb dL_law_1129 rfl (lv_at hl 1 rfl) ?_
    refine lv_aload_n hx hb dL_law_1130 rfl (lv_at hl 0 rfl) ?_
    refine lv_iload hx hb dL_law_1131 (lv_at hl 4 rfl) ?_
    refine lv_iconst (v := 1) hx hb dL_law_1133 (by decide) ?_
    refine lv_iadd hx hb dL_law_1134 ?_
    refine va_sld hx hb hXX hbl hbA hS hi1 dL_law_1135 ?_
    refine kw_top (v := .int a1) (by rw [ea1]) ?_
    refine lv_if_eq (tgt := 1143) hx hb dL_law_1136 (by decide) (fun _ => ?_) (fun h9 => absurd hz h9)
    refine lv_iconst (v := 0) hx hb dL_law_1143 (by decide) ?_
    obtain ⟨heq, hKL⟩ := q_reconcile (B' := B2) hkl (by omega) (0 : Int32)
    refine kcI (ci := 3) (q0 := 0) (As := [.int 0]) (rest := []) E.1 (cx3_reconcile EX aL L (0 : Int32)) hX (cwV 1 hts gL_law_X3_reconcile rfl rfl rfl hdX3_reconcile ⟨Nat.le_of_ble_eq_true rfl, Nat.le_of_ble_eq_true rfl⟩) hKs hK hP hD hS hA (outW cJ ao o) (mdW cI am M) rfl rfl rfl rfl rfl rfl hl.1 (Nat.le_of_ble_eq_true rfl) dL_law_1144 ⟨Nat.le_of_succ_le hc, Nat.le_trans (Nat.le_add_right _ _) hs⟩ (fun H locs hP hD hS => ?_)
    have hP : va_P D vwCl (lawW cI cB cS cJ ao aL am o L M) H := hP
    have hD : va_D (fun q : Nat => s.heap.size ≤ q) (lawW cI cB cS cJ ao aL am o L M) := hD
    refine lv_aload_n hx hb dL_law_1147 rfl (lv_at hl 2 rfl) ?_
    refine lv_aload_n hx hb dL_law_1148 rfl (lv_at hl 0 rfl) ?_
    refine lv_iload hx hb dL_law_1149 (lv_at hl 4 rfl) ?_
    refine lv_iconst (v := 1) hx hb dL_law_1151 (by decide) ?_
    refine lv_iadd hx hb dL_law_1152 ?_
    refine va_sld hx hb hXX hbl hbA hS hi1 dL_law_1153 ?_
    refine kw_top (v := .int a1) (by rw [ea1]) ?_
    refine lv_if_eq (tgt := 1161) hx hb dL_law_1154 (by decide) (fun _ => ?_) (fun h9 => absurd hz h9)
    refine lv_iconst (v := 0) hx hb dL_law_1161 (by decide) ?_
    refine kcI (ci := 4) (q0 := 0) (As := [.int 0]) (rest := [.int (fx3_reconcile L (0 : Int32))]) E.1 (cx4_reconcile E am M (0 : Int32)) hX (cwV 1 hts gL_law_X4_reconcile rfl rfl rfl hdX4_reconcile ⟨Nat.le_of_ble_eq_true rfl, Nat.le_of_ble_eq_true rfl⟩) hKs hK hP hD hS hA _ _ (law_md cI cB cS cJ ao aL am o L M) (law_md cI cB cS cJ ao aL am o L (fx4_reconcile M (0 : Int32)).2).symm rfl rfl rfl rfl hl.1 (Nat.le_of_ble_eq_true rfl) dL_law_1162 ⟨Nat.le_of_succ_le hc, Nat.le_trans (Nat.le_add_right _ _) hs⟩ (fun H locs hP hD hS => ?_)
    refine W.widen (k := cells + 1) (n := slots + 6) (Nat.le_succ _) (Nat.le_add_right _ _) ?_
    refine lv_icmp_eq (tgt := 1476) hx hb dL_law_1165 (by decide) (fun _ => ?_) (fun h9 => absurd heq h9)
    exact kk _ _ _ hKL _ _ hP hD hS _ hl
  · refine lv_aload_n hx hb dL_law_1129 rfl (lv_at hl 1 rfl) ?_
    refine lv_aload_n hx hb dL_law_1130 rfl (lv_at hl 0 rfl) ?_
    refine lv_iload hx hb dL_law_1131 (lv_at hl 4 rfl) ?_
    refine lv_iconst (v := 1) hx hb dL_law_1133 (by decide) ?_
    refine lv_iadd hx hb dL_law_1134 ?_
    refine va_sld hx hb hXX hbl hbA hS hi1 dL_law_1135 ?_
    refine kw_top (v := .int a1) (by rw [ea1]) ?_
    refine lv_if_eq (tgt := 1143) hx hb dL_law_1136 (by decide) (fun h9 => absurd h9 hz) (fun _ => ?_)
    refine lv_iconst (v := 1) hx hb dL_law_1139 (by decide) ?_
    refine lv_goto (tgt := 1144) hx hb dL_law_1140 (by decide) ?_
    obtain ⟨heq, hKL⟩ := q_reconcile (B' := B2) hkl (by omega) (1 : Int32)
    refine kcI (ci := 3) (q0 := 0) (As := [.int 1]) (rest := []) E.1 (cx3_reconcile EX aL L (1 : Int32)) hX (cwV 1 hts gL_law_X3_reconcile rfl rfl rfl hdX3_reconcile ⟨Nat.le_of_ble_eq_true rfl, Nat.le_of_ble_eq_true rfl⟩) hKs hK hP hD hS hA (outW cJ ao o) (mdW cI am M) rfl rfl rfl rfl rfl rfl hl.1 (Nat.le_of_ble_eq_true rfl) dL_law_1144 ⟨Nat.le_of_succ_le hc, Nat.le_trans (Nat.le_add_right _ _) hs⟩ (fun H locs hP hD hS => ?_)
    have hP : va_P D vwCl (lawW cI cB cS cJ ao aL am o L M) H := hP
    have hD : va_D (fun q : Nat => s.heap.size ≤ q) (lawW cI cB cS cJ ao aL am o L M) := hD
    refine lv_aload_n hx hb dL_law_1147 rfl (lv_at hl 2 rfl) ?_
    refine lv_aload_n hx hb dL_law_1148 rfl (lv_at hl 0 rfl) ?_
    refine lv_iload hx hb dL_law_1149 (lv_at hl 4 rfl) ?_
    refine lv_iconst (v := 1) hx hb dL_law_1151 (by decide) ?_
    refine lv_iadd hx hb dL_law_1152 ?_
    refine va_sld hx hb hXX hbl hbA hS hi1 dL_law_1153 ?_
    refine kw_top (v := .int a1) (by rw [ea1]) ?_
    refine lv_if_eq (tgt := 1161) hx hb dL_law_1154 (by decide) (fun h9 => absurd h9 hz) (fun _ => ?_)
    refine lv_iconst (v := 1) hx hb dL_law_1157 (by decide) ?_
    refine lv_goto (tgt := 1162) hx hb dL_law_1158 (by decide) ?_
    refine kcI (ci := 4) (q0 := 0) (As := [.int 1]) (rest := [.int (fx3_reconcile L (1 : Int32))]) E.1 (cx4_reconcile E am M (1 : Int32)) hX (cwV 1 hts gL_law_X4_reconcile rfl rfl rfl hdX4_reconcile ⟨Nat.le_of_ble_eq_true rfl, Nat.le_of_ble_eq_true rfl⟩) hKs hK hP hD hS hA _ _ (law_md cI cB cS cJ ao aL am o L M) (law_md cI cB cS cJ ao aL am o L (fx4_reconcile M (1 : Int32)).2).symm rfl rfl rfl rfl hl.1 (Nat.le_of_ble_eq_true rfl) dL_law_1162 ⟨Nat.le_of_succ_le hc, Nat.le_trans (Nat.le_add_right _ _) hs⟩ (fun H locs hP hD hS => ?_)
    refine W.widen (k := cells + 1) (n := slots + 6) (Nat.le_succ _) (Nat.le_add_right _ _) ?_
    refine lv_icmp_eq (tgt := 1476) hx hb dL_law_1165 (by decide) (fun _ => ?_) (fun h9 => absurd heq h9)
    exact kk _ _ _ hKL _ _ hP hD hS _ hl

set_option maxHeartbeats 4000000 in
set_option maxRecDepth 100000 in
theorem law_goodShare {p : Program} {l : Launch} {e : Env} {s : State} {m : MethodId} {below : List Frame} {meth : Method} {c : Code} {b Ln : Nat} {xs : Nat → Int32} {D : va_G} {cI cB cS cJ : ClassId} {K : State → Prop} {Q : State → Prop} {aL : Nat → Nat → Nat} {am : Nat → Nat} {ao : Nat} {x4 : Int32} {o : Nat → Int64} {L : Nat → St} {M : Md} {H : Heap} {locs : List Loc} {cells slots : Nat} {ls : Array Slot} {B B2 : Int} (C : LC p l s m c b Ln xs D cI cB cS cJ K)  (hkl : KL B L M) (hB : B + 1000 ≤ B2) (hL : B2 ≤ 1000000000) (hc : cells + 1 ≤ 601024) (hs : slots + 6 ≤ 7293034) (hP : va_P D vwCl (lawW cI cB cS cJ ao aL am o L M) H) (hD : va_D (fun q : Nat => s.heap.size ≤ q) (lawW cI cB cS cJ ao aL am o L M)) (hS : va_S (fun q : Nat => s.heap.size ≤ q) s.heap H locs) (hl : lv_has ls 9 (lv5 b aL am ao x4)) (kk : LK p l e s m below meth c b D cI cB cS cJ aL am ao x4 B2 cells slots Q) : W p l e room_1 s m #[Value.ref b] below meth c H locs cells slots Q (F0 m 1170 ls []) := by
  obtain ⟨hx, hb, hml, hown, hts, hXX, hbl, EW, hfl, hKs, hSt⟩ := C
  have EX := EW.1
  have E := EX.1
  have hK := (E.2 s hKs).1
  have hA : ∀ q : Nat, s.heap.size ≤ q → (fun q : Nat => s.heap.size ≤ q) q := fun _ h => h
  have hbA : ¬ (fun q : Nat => s.heap.size ≤ q) b := Nat.not_le.mpr hbl
  have hX : CallFix p m c cL_law 9 s _ wsL_law RL := ⟨hx, hb, hml, hown, hts⟩
  have hl : lv_has ls 9 [(0, .ref b), (1, .ref (aL 7 0)), (2, .ref (am 0)), (3, .ref ao), (4, .int x4)] := hl
  refine lv_aload_n hx hb dL_law_1170 rfl (lv_at hl 1 rfl) ?_
  obtain ⟨hs3, hs4, heq, hn, hKL⟩ := q_goodShare (B' := B2) hkl (by omega)
  refine kcF (ci := 3) (q0 := 0) (As := []) (rest := []) E.1 (cx3_goodShare EX aL L  hs3) hX (cwV 0 hts gL_law_X3_goodShare rfl rfl rfl hdX3_goodShare ⟨Nat.le_of_ble_eq_true rfl, Nat.le_of_ble_eq_true rfl⟩) hKs hK hP hD hS hA (outW cJ ao o) (mdW cI am M) rfl rfl rfl rfl rfl rfl hl.1 (Nat.le_of_ble_eq_true rfl) dL_law_1171 ⟨Nat.le_of_succ_le hc, Nat.le_trans (Nat.le_add_right _ _) hs⟩ (fun H locs hP hD hS => ?_)
  have hP : va_P D vwCl (lawW cI cB cS cJ ao aL am o L M) H := hP
  have hD : va_D (fun q : Nat => s.heap.size ≤ q) (lawW cI cB cS cJ ao aL am o L M) := hD
  refine lv_dstore (lv' := (5, .double (fx3_goodShare L)) :: [(0, .ref b), (1, .ref (aL 7 0)), (2, .ref (am 0)), (3, .ref ao), (4, .int x4)]) hx hb dL_law_1174 hl (by decide) rfl (fun ls hl => ?_)
  refine lv_aload_n hx hb dL_law_1176 rfl (lv_at hl 3 rfl) ?_
  refine kcF (ci := 4) (q0 := 0) (As := []) (rest := []) E.1 (cx4_goodShare E am M  hs4) hX (cwV 0 hts gL_law_X4_goodShare rfl rfl rfl hdX4_goodShare ⟨Nat.le_of_ble_eq_true rfl, Nat.le_of_ble_eq_true rfl⟩) hKs hK hP hD hS hA _ _ (law_md cI cB cS cJ ao aL am o L M) (law_md cI cB cS cJ ao aL am o L (fx4_goodShare M).2).symm rfl rfl rfl rfl hl.1 (Nat.le_of_ble_eq_true rfl) dL_law_1177 ⟨Nat.le_of_succ_le hc, Nat.le_trans (Nat.le_add_right _ _) hs⟩ (fun H locs hP hD hS => ?_)
  rw [← heq]
  refine lv_dstore (lv' := (7, .double (fx3_goodShare L)) :: [(5, .double (fx3_goodShare L)), (0, .ref b), (1, .ref (aL 7 0)), (2, .ref (am 0)), (3, .ref ao), (4, .int x4)]) hx hb dL_law_1180 hl (by decide) rfl (fun ls hl => ?_)
  refine W.widen (k := cells + 1) (n := slots + 6) (Nat.le_succ _) (Nat.le_add_right _ _) ?_
  refine lv_dload hx hb dL_law_1182 (lv_at hl 1 rfl) ?_
  refine lv_dload hx hb dL_law_1184 (lv_at hl 0 rfl) ?_
  refine lv_dcmp hx hb dL_law_1186 ?_
  refine lv_if_eq (tgt := 1208) hx hb dL_law_1187 (by decide) (fun _ => ?_) (fun h9 => ?_)
  · refine lv_goto (tgt := 1476) hx hb dL_law_1208 (by decide) ?_
    exact kk _ _ _ hKL _ _ hP hD hS _ (lv_sub hl [2, 3, 4, 5, 6] rfl)
  · refine lv_dload hx hb dL_law_1190 (lv_at hl 1 rfl) ?_
    refine lv_dload hx hb dL_law_1192 (lv_at hl 1 rfl) ?_
    refine lv_dcmp hx hb dL_law_1194 ?_
    refine lv_if_eq (tgt := 1206) hx hb dL_law_1195 (by decide) (fun h8 => absurd h8 h9) (fun _ => ?_)
    refine lv_dload hx hb dL_law_1198 (lv_at hl 0 rfl) ?_
    refine lv_dload hx hb dL_law_1200 (lv_at hl 0 rfl) ?_
    refine lv_dcmp hx hb dL_law_1202 ?_
    refine lv_if_ne (tgt := 1208) hx hb dL_law_1203 (by decide) (fun _ => ?_) (fun h8 => absurd h8 h9)
    refine lv_goto (tgt := 1476) hx hb dL_law_1208 (by decide) ?_
    exact kk _ _ _ hKL _ _ hP hD hS _ (lv_sub hl [2, 3, 4, 5, 6] rfl)

/-! the station: printed by my own program (gen.py) out of the listing -/
theorem hdX3_ticksOf : yX3_ticksOf.cls = RX3 ∧ yX3_ticksOf.cls ≠ "java/lang/invoke/MethodHandle" ∧ yX3_ticksOf.cls ≠ "java/lang/invoke/VarHandle" ∧ (parseMethodDescriptor yX3_ticksOf.desc).map (fun d => d.parameters.length) = some 1 := by decide +kernel
def fx3_ticksOf (x1 : Int32) : Int32 := (if x1 = 46 then 1 else (if x1 = 58 then 10 else 0))
set_option maxHeartbeats 4000000 in
set_option maxRecDepth 100000 in
theorem cx3_ticksOf {l : Launch} {D : va_G} {cI cB cS cJ : ClassId} {K : State → Prop} (E : kE D cI cB cS cJ K) (x1 : Int32) : kI l D K yX3_ticksOf wsX3_ticksOf 0 0 [.int x1] ([]) (fx3_ticksOf x1) ([]) := by
  refine kI_of (own := RX3) (cc := cX3_ticksOf) (maxL := 1) (tys := kty cI cB cS cJ) (fun U h => (E.2 U h).1) (by decide) rfl rfl (Nat.le_of_ble_eq_true rfl) ?_
  intro p e s m below meth c A ls hx hb hr hml hts hown hlk hKs hK hP hD hA hS hl
  have hl : lv_has ls 1 [(0, .int x1)] := hl
  have hX : CallFix p m c cX3_ticksOf 1 s _ wsX3_ticksOf RX3 := ⟨hx, hb, hml, hown, hts⟩
  generalize hR : fx3_ticksOf x1 = R
  rw [fx3_ticksOf] at hR
  refine lv_iload_n hx hb dX3_ticksOf_0 rfl (lv_at hl 0 rfl) ?_
  refine lv_bipush (v := 46) hx hb dX3_ticksOf_1 (by decide) ?_
  refine lv_icmp_ne (tgt := 8) hx hb dX3_ticksOf_3 (by decide) (fun c1 => ?_) (fun c1 => ?_)
  · rw [if_neg c1] at hR
    refine lv_iload_n hx hb dX3_ticksOf_8 rfl (lv_at hl 0 rfl) ?_
    refine lv_bipush (v := 58) hx hb dX3_ticksOf_9 (by decide) ?_
    refine lv_icmp_ne (tgt := 19) hx hb dX3_ticksOf_11 (by decide) (fun c2 => ?_) (fun c2 => ?_)
    · rw [if_neg c2] at hR
      refine lv_iconst (v := 0) hx hb dX3_ticksOf_19 (by decide) ?_
      subst hR
      exact krI hx hb hr hlk hP hD hS dX3_ticksOf_20 rfl rfl
    · rw [if_pos c2] at hR
      refine lv_bipush (v := 10) hx hb dX3_ticksOf_14 (by decide) ?_
      refine lv_goto (tgt := 20) hx hb dX3_ticksOf_16 (by decide) ?_
      subst hR
      exact krI hx hb hr hlk hP hD hS dX3_ticksOf_20 rfl rfl
  · rw [if_pos c1] at hR
    refine lv_iconst (v := 1) hx hb dX3_ticksOf_6 (by decide) ?_
    subst hR
    exact krI hx hb hr hlk hP hD hS dX3_ticksOf_7 rfl rfl

theorem hdX3_least : yX3_least.cls = RX3 ∧ yX3_least.cls ≠ "java/lang/invoke/MethodHandle" ∧ yX3_least.cls ≠ "java/lang/invoke/VarHandle" ∧ (parseMethodDescriptor yX3_least.desc).map (fun d => d.parameters.length) = some 1 := by decide +kernel
def fx3_least (x1 : Int32) : Int32 := (if x1 < 0 then 0 else (if 7 ≤ x1 then 0 else kLeast (x1).toNatClampNeg))
set_option maxHeartbeats 4000000 in
set_option maxRecDepth 100000 in
theorem cx3_least {l : Launch} {D : va_G} {cI cB cS cJ : ClassId} {K : State → Prop} (E : kE D cI cB cS cJ K) (x1 : Int32) : kG l D K yX3_least wsX3_least 0 0 [.int x1] ([]) (fx3_least x1) ([]) := by
  refine kG_of (own := RX3) (cc := cX3_least) (maxL := 1) (tys := kty cI cB cS cJ) (fun U h => (E.2 U h).1) (by decide) rfl rfl (Nat.le_of_ble_eq_true rfl) ?_
  intro p e s m below meth c A ls hx hb hr hml hts hown hlk hKs hK hP hD hA hS hl hSt
  have hl : lv_has ls 1 [(0, .int x1)] := hl
  have hX : CallFix p m c cX3_least 1 s _ wsX3_least RX3 := ⟨hx, hb, hml, hown, hts⟩
  have q1 := hts (.fieldLink RX3 87 "LabelStation" "LEAST_SETTING" "[I") (List.mem_of_getElem? (i := 1) rfl)
  generalize hR : fx3_least x1 = R
  rw [fx3_least] at hR
  refine lv_iload_n hx hb dX3_least_0 rfl (lv_at hl 0 rfl) ?_
  refine lv_if_lt (tgt := 20) hx hb dX3_least_1 (by decide) (fun c1 => ?_) (fun c1 => ?_)
  · rw [if_pos c1] at hR
    refine lv_iconst (v := 0) hx hb dX3_least_20 (by decide) ?_
    subst hR
    exact krI hx hb hr hlk hP hD hS dX3_least_21 rfl rfl
  · rw [if_neg c1] at hR
    refine lv_iload_n hx hb dX3_least_4 rfl (lv_at hl 0 rfl) ?_
    obtain ⟨tt1, tt2, hz1, ht1, hz2, ht2⟩ := hSt.2
    refine va_gets hx hb hz1 hS hown q1 (fun _ h9 => h9) dX3_least_5 ?_
    refine va_tlen (v := 7) hx hb ht1 hS rfl dX3_least_8 ?_
    refine lv_icmp_ge (tgt := 20) hx hb dX3_least_9 (by decide) (fun c2 => ?_) (fun c2 => ?_)
    · rw [if_pos c2] at hR
      refine lv_iconst (v := 0) hx hb dX3_least_20 (by decide) ?_
      subst hR
      exact krI hx hb hr hlk hP hD hS dX3_least_21 rfl rfl
    · rw [if_neg c2] at hR
      obtain ⟨tt1, tt2, hz1, ht1, hz2, ht2⟩ := hSt.2
      refine va_gets hx hb hz1 hS hown q1 (fun _ h9 => h9) dX3_least_12 ?_
      refine lv_iload_n hx hb dX3_least_15 rfl (lv_at hl 0 rfl) ?_
      refine va_ti (v := .int (kLeast (x1).toNatClampNeg)) hx hb ht1 hS (kin_of (n := 7) c1 c2 (by decide)) rfl dX3_least_16 ?_
      refine lv_goto (tgt := 21) hx hb dX3_least_17 (by decide) ?_
      subst hR
      exact krI hx hb hr hlk hP hD hS dX3_least_21 rfl rfl

theorem hdX3_most : yX3_most.cls = RX3 ∧ yX3_most.cls ≠ "java/lang/invoke/MethodHandle" ∧ yX3_most.cls ≠ "java/lang/invoke/VarHandle" ∧ (parseMethodDescriptor yX3_most.desc).map (fun d => d.parameters.length) = some 1 := by decide +kernel
def fx3_most (x1 : Int32) : Int32 := (if x1 < 0 then 0 else (if 7 ≤ x1 then 0 else kMost (x1).toNatClampNeg))
set_option maxHeartbeats 4000000 in
set_option maxRecDepth 100000 in
theorem cx3_most {l : Launch} {D : va_G} {cI cB cS cJ : ClassId} {K : State → Prop} (E : kE D cI cB cS cJ K) (x1 : Int32) : kG l D K yX3_most wsX3_most 0 0 [.int x1] ([]) (fx3_most x1) ([]) := by
  refine kG_of (own := RX3) (cc := cX3_most) (maxL := 1) (tys := kty cI cB cS cJ) (fun U h => (E.2 U h).1) (by decide) rfl rfl (Nat.le_of_ble_eq_true rfl) ?_
  intro p e s m below meth c A ls hx hb hr hml hts hown hlk hKs hK hP hD hA hS hl hSt
  have hl : lv_has ls 1 [(0, .int x1)] := hl
  have hX : CallFix p m c cX3_most 1 s _ wsX3_most RX3 := ⟨hx, hb, hml, hown, hts⟩
  have q1 := hts (.fieldLink RX3 91 "LabelStation" "MOST_SETTING" "[I") (List.mem_of_getElem? (i := 1) rfl)
  generalize hR : fx3_most x1 = R
  rw [fx3_most] at hR
  refine lv_iload_n hx hb dX3_most_0 rfl (lv_at hl 0 rfl) ?_
  refine lv_if_lt (tgt := 20) hx hb dX3_most_1 (by decide) (fun c1 => ?_) (fun c1 => ?_)
  · rw [if_pos c1] at hR
    refine lv_iconst (v := 0) hx hb dX3_most_20 (by decide) ?_
    subst hR
    exact krI hx hb hr hlk hP hD hS dX3_most_21 rfl rfl
  · rw [if_neg c1] at hR
    refine lv_iload_n hx hb dX3_most_4 rfl (lv_at hl 0 rfl) ?_
    obtain ⟨tt1, tt2, hz1, ht1, hz2, ht2⟩ := hSt.2
    refine va_gets hx hb hz2 hS hown q1 (fun _ h9 => h9) dX3_most_5 ?_
    refine va_tlen (v := 7) hx hb ht2 hS rfl dX3_most_8 ?_
    refine lv_icmp_ge (tgt := 20) hx hb dX3_most_9 (by decide) (fun c2 => ?_) (fun c2 => ?_)
    · rw [if_pos c2] at hR
      refine lv_iconst (v := 0) hx hb dX3_most_20 (by decide) ?_
      subst hR
      exact krI hx hb hr hlk hP hD hS dX3_most_21 rfl rfl
    · rw [if_neg c2] at hR
      obtain ⟨tt1, tt2, hz1, ht1, hz2, ht2⟩ := hSt.2
      refine va_gets hx hb hz2 hS hown q1 (fun _ h9 => h9) dX3_most_12 ?_
      refine lv_iload_n hx hb dX3_most_15 rfl (lv_at hl 0 rfl) ?_
      refine va_ti (v := .int (kMost (x1).toNatClampNeg)) hx hb ht2 hS (kin_of (n := 7) c1 c2 (by decide)) rfl dX3_most_16 ?_
      refine lv_goto (tgt := 21) hx hb dX3_most_17 (by decide) ?_
      subst hR
      exact krI hx hb hr hlk hP hD hS dX3_most_21 rfl rfl

theorem hdX3_recordsThatLeft : yX3_recordsThatLeft.cls = RX3 ∧ yX3_recordsThatLeft.cls ≠ "java/lang/invoke/MethodHandle" ∧ yX3_recordsThatLeft.cls ≠ "java/lang/invoke/VarHandle" ∧ (parseMethodDescriptor yX3_recordsThatLeft.desc).map (fun d => d.parameters.length) = some 0 := by decide +kernel
def fx3_recordsThatLeft (L : (Nat → St)) : Int32 := ((fx1_counted (L 0) 1) + (fx1_counted (L 0) 2)) + (fx1_counted (L 0) 3)
set_option maxHeartbeats 4000000 in
set_option maxRecDepth 100000 in
theorem cx3_recordsThatLeft {l : Launch} {D : va_G} {cI cB cS cJ : ClassId} {K : State → Prop} (EX : kEX D cI cB cS cJ K) (aL : Nat → Nat → Nat) (L : (Nat → St)) : kI l D K yX3_recordsThatLeft wsX3_recordsThatLeft 1 21 [.ref (aL 7 0)] (lsW cI cB cS aL L) (fx3_recordsThatLeft L) (lsW cI cB cS aL L) := by
  have E := EX.1
  refine kI_of (own := RX3) (cc := cX3_recordsThatLeft) (maxL := 1) (tys := kty cI cB cS cJ) (fun U h => (E.2 U h).1) (by decide) rfl rfl (Nat.le_of_ble_eq_true rfl) ?_
  intro p e s m below meth c A ls hx hb hr hml hts hown hlk hKs hK hP hD hA hS hl
  have hl : lv_has ls 1 [(0, .ref (aL 7 0))] := hl
  have hX : CallFix p m c cX3_recordsThatLeft 1 s _ wsX3_recordsThatLeft RX3 := ⟨hx, hb, hml, hown, hts⟩
  have hinX3 : ∀ w ∈ wsX30, w ∈ wsX3_recordsThatLeft := fun w h => List.mem_cons_of_mem _ (List.mem_append_left _ (List.mem_append_right _ h))
  have q1 := hts (.fieldLink RX3 10 "LabelStation" "state" "LLabelStation$State;") (List.mem_of_getElem? (i := 1) rfl)
  generalize hR : fx3_recordsThatLeft L = R
  rw [fx3_recordsThatLeft] at hR
  refine lv_aload_n hx hb dX3_recordsThatLeft_0 rfl (lv_at hl 0 rfl) ?_
  refine va_get (D := D) (ci := 3) (v := .ref (aL 0 0)) (C := RX3) (T := TX3) (N := 5) hx hb hts hinX3 hown hK hP 0 rfl rfl 0 (by decide) q1 (fun _ h9 => h9) rfl dX3_recordsThatLeft_1 ?_
  refine lv_iconst (v := 1) hx hb dX3_recordsThatLeft_4 (by decide) ?_
  refine kcI (ci := 1) (q0 := 0) (As := [.int 1]) (rest := []) E.1 (cx1_counted E (aL 0) (L 0) 1) hX (cwV 1 hts gX3_recordsThatLeft_X1_counted rfl rfl rfl hdX1_counted ⟨Nat.le_of_ble_eq_true rfl, Nat.le_of_ble_eq_true rfl⟩) hKs hK hP hD hS hA _ _ (ls_st0 cI cB cS aL L) (ls_st0 cI cB cS aL L).symm rfl rfl rfl rfl hl.1 (Nat.le_of_ble_eq_true rfl) dX3_recordsThatLeft_5 ⟨Nat.zero_le _, Nat.zero_le _⟩ (fun H locs hP hD hS => ?_)
  refine lv_aload_n hx hb dX3_recordsThatLeft_8 rfl (lv_at hl 0 rfl) ?_
  refine va_get (D := D) (ci := 3) (v := .ref (aL 0 0)) (C := RX3) (T := TX3) (N := 5) hx hb hts hinX3 hown hK hP 0 rfl rfl 0 (by decide) q1 (fun _ h9 => h9) rfl dX3_recordsThatLeft_9 ?_
  refine lv_iconst (v := 2) hx hb dX3_recordsThatLeft_12 (by decide) ?_
  refine kcI (ci := 1) (q0 := 0) (As := [.int 2]) (rest := [.int (fx1_counted (L 0) 1)]) E.1 (cx1_counted E (aL 0) (L 0) 2) hX (cwV 1 hts gX3_recordsThatLeft_X1_counted rfl rfl rfl hdX1_counted ⟨Nat.le_of_ble_eq_true rfl, Nat.le_of_ble_eq_true rfl⟩) hKs hK hP hD hS hA _ _ (ls_st0 cI cB cS aL L) (ls_st0 cI cB cS aL L).symm rfl rfl rfl rfl hl.1 (Nat.le_of_ble_eq_true rfl) dX3_recordsThatLeft_13 ⟨Nat.zero_le _, Nat.zero_le _⟩ (fun H locs hP hD hS => ?_)
  refine lv_iadd hx hb dX3_recordsThatLeft_16 ?_
  refine lv_aload_n hx hb dX3_recordsThatLeft_17 rfl (lv_at hl 0 rfl) ?_
  refine va_get (D := D) (ci := 3) (v := .ref (aL 0 0)) (C := RX3) (T := TX3) (N := 5) hx hb hts hinX3 hown hK hP 0 rfl rfl 0 (by decide) q1 (fun _ h9 => h9) rfl dX3_recordsThatLeft_18 ?_
  refine lv_iconst (v := 3) hx hb dX3_recordsThatLeft_21 (by decide) ?_
  refine kcI (ci := 1) (q0 := 0) (As := [.int 3]) (rest := [.int ((fx1_counted (L 0) 1) + (fx1_counted (L 0) 2))]) E.1 (cx1_counted E (aL 0) (L 0) 3) hX (cwV 1 hts gX3_recordsThatLeft_X1_counted rfl rfl rfl hdX1_counted ⟨Nat.le_of_ble_eq_true rfl, Nat.le_of_ble_eq_true rfl⟩) hKs hK hP hD hS hA _ _ (ls_st0 cI cB cS aL L) (ls_st0 cI cB cS aL L).symm rfl rfl rfl rfl hl.1 (Nat.le_of_ble_eq_true rfl) dX3_recordsThatLeft_22 ⟨Nat.zero_le _, Nat.zero_le _⟩ (fun H locs hP hD hS => ?_)
  refine lv_iadd hx hb dX3_recordsThatLeft_25 ?_
  subst hR
  exact krI hx hb hr hlk hP hD hS dX3_recordsThatLeft_26 rfl rfl

theorem hdX3_sparePulses : yX3_sparePulses.cls = RX3 ∧ yX3_sparePulses.cls ≠ "java/lang/invoke/MethodHandle" ∧ yX3_sparePulses.cls ≠ "java/lang/invoke/VarHandle" ∧ (parseMethodDescriptor yX3_sparePulses.desc).map (fun d => d.parameters.length) = some 1 := by decide +kernel
def fx3_sparePulses (L : (Nat → St)) (x1 : Int32) : Int32 := ((fx1_place (L 0) 3) - (fx1_place (L 0) 1)) - (((fx1_setting (L 0) 1) * x1) - 1)
set_option maxHeartbeats 4000000 in
set_option maxRecDepth 100000 in
theorem cx3_sparePulses {l : Launch} {D : va_G} {cI cB cS cJ : ClassId} {K : State → Prop} (EX : kEX D cI cB cS cJ K) (aL : Nat → Nat → Nat) (L : (Nat → St)) (x1 : Int32) : kI l D K yX3_sparePulses wsX3_sparePulses 1 21 [.ref (aL 7 0), .int x1] (lsW cI cB cS aL L) (fx3_sparePulses L x1) (lsW cI cB cS aL L) := by
  have E := EX.1
  refine kI_of (own := RX3) (cc := cX3_sparePulses) (maxL := 3) (tys := kty cI cB cS cJ) (fun U h => (E.2 U h).1) (by decide) rfl rfl (Nat.le_of_ble_eq_true rfl) ?_
  intro p e s m below meth c A ls hx hb hr hml hts hown hlk hKs hK hP hD hA hS hl
  have hl : lv_has ls 3 [(0, .ref (aL 7 0)), (1, .int x1)] := hl
  have hX : CallFix p m c cX3_sparePulses 3 s _ wsX3_sparePulses RX3 := ⟨hx, hb, hml, hown, hts⟩
  have hinX3 : ∀ w ∈ wsX30, w ∈ wsX3_sparePulses := fun w h => List.mem_cons_of_mem _ (List.mem_append_left _ (List.mem_append_right _ h))
  have q1 := hts (.fieldLink RX3 10 "LabelStation" "state" "LLabelStation$State;") (List.mem_of_getElem? (i := 1) rfl)
  generalize hR : fx3_sparePulses L x1 = R
  rw [fx3_sparePulses] at hR
  refine lv_aload_n hx hb dX3_sparePulses_0 rfl (lv_at hl 0 rfl) ?_
  refine va_get (D := D) (ci := 3) (v := .ref (aL 0 0)) (C := RX3) (T := TX3) (N := 5) hx hb hts hinX3 hown hK hP 0 rfl rfl 0 (by decide) q1 (fun _ h9 => h9) rfl dX3_sparePulses_1 ?_
  refine lv_iconst (v := 1) hx hb dX3_sparePulses_4 (by decide) ?_
  refine kcI (ci := 1) (q0 := 0) (As := [.int 1]) (rest := []) E.1 (cx1_setting E (aL 0) (L 0) 1) hX (cwV 1 hts gX3_sparePulses_X1_setting rfl rfl rfl hdX1_setting ⟨Nat.le_of_ble_eq_true rfl, Nat.le_of_ble_eq_true rfl⟩) hKs hK hP hD hS hA _ _ (ls_st0 cI cB cS aL L) (ls_st0 cI cB cS aL L).symm rfl rfl rfl rfl hl.1 (Nat.le_of_ble_eq_true rfl) dX3_sparePulses_5 ⟨Nat.zero_le _, Nat.zero_le _⟩ (fun H locs hP hD hS => ?_)
  refine lv_iload_n hx hb dX3_sparePulses_8 rfl (lv_at hl 1 rfl) ?_
  refine lv_imul hx hb dX3_sparePulses_9 ?_
  refine lv_iconst (v := 1) hx hb dX3_sparePulses_10 (by decide) ?_
  refine lv_isub hx hb dX3_sparePulses_11 ?_
  refine lv_istore_n (lv' := [(2, .int (((fx1_setting (L 0) 1) * x1) - 1)), (0, .ref (aL 7 0)), (1, .int x1)]) hx hb dX3_sparePulses_12 rfl hl (by decide) rfl (fun ls hl => ?_)
  refine lv_aload_n hx hb dX3_sparePulses_13 rfl (lv_at hl 1 rfl) ?_
  refine va_get (D := D) (ci := 3) (v := .ref (aL 0 0)) (C := RX3) (T := TX3) (N := 5) hx hb hts hinX3 hown hK hP 0 rfl rfl 0 (by decide) q1 (fun _ h9 => h9) rfl dX3_sparePulses_14 ?_
  refine lv_iconst (v := 3) hx hb dX3_sparePulses_17 (by decide) ?_
  refine kcI (ci := 1) (q0 := 0) (As := [.int 3]) (rest := []) E.1 (cx1_place E (aL 0) (L 0) 3) hX (cwV 1 hts gX3_sparePulses_X1_place rfl rfl rfl hdX1_place ⟨Nat.le_of_ble_eq_true rfl, Nat.le_of_ble_eq_true rfl⟩) hKs hK hP hD hS hA _ _ (ls_st0 cI cB cS aL L) (ls_st0 cI cB cS aL L).symm rfl rfl rfl rfl hl.1 (Nat.le_of_ble_eq_true rfl) dX3_sparePulses_18 ⟨Nat.zero_le _, Nat.zero_le _⟩ (fun H locs hP hD hS => ?_)
  refine lv_aload_n hx hb dX3_sparePulses_21 rfl (lv_at hl 1 rfl) ?_
  refine va_get (D := D) (ci := 3) (v := .ref (aL 0 0)) (C := RX3) (T := TX3) (N := 5) hx hb hts hinX3 hown hK hP 0 rfl rfl 0 (by decide) q1 (fun _ h9 => h9) rfl dX3_sparePulses_22 ?_
  refine lv_iconst (v := 1) hx hb dX3_sparePulses_25 (by decide) ?_
  refine kcI (ci := 1) (q0 := 0) (As := [.int 1]) (rest := [.int (fx1_place (L 0) 3)]) E.1 (cx1_place E (aL 0) (L 0) 1) hX (cwV 1 hts gX3_sparePulses_X1_place rfl rfl rfl hdX1_place ⟨Nat.le_of_ble_eq_true rfl, Nat.le_of_ble_eq_true rfl⟩) hKs hK hP hD hS hA _ _ (ls_st0 cI cB cS aL L) (ls_st0 cI cB cS aL L).symm rfl rfl rfl rfl hl.1 (Nat.le_of_ble_eq_true rfl) dX3_sparePulses_26 ⟨Nat.zero_le _, Nat.zero_le _⟩ (fun H locs hP hD hS => ?_)
  refine lv_isub hx hb dX3_sparePulses_29 ?_
  refine lv_iload_n hx hb dX3_sparePulses_30 rfl (lv_at hl 0 rfl) ?_
  refine lv_isub hx hb dX3_sparePulses_31 ?_
  subst hR
  exact krI hx hb hr hlk hP hD hS dX3_sparePulses_32 rfl rfl

theorem hdX3_byteAt : yX3_byteAt.cls = RX3 ∧ yX3_byteAt.cls ≠ "java/lang/invoke/MethodHandle" ∧ yX3_byteAt.cls ≠ "java/lang/invoke/VarHandle" ∧ (parseMethodDescriptor yX3_byteAt.desc).map (fun d => d.parameters.length) = some 1 := by decide +kernel
def fx3_byteAt (L : (Nat → St)) (x1 : Int32) : Int32 := (if x1 < 0 then (-1) else (if (nI 80) ≤ x1 then (-1) else ((L 7) 0) (x1).toNatClampNeg))
set_option maxHeartbeats 4000000 in
set_option maxRecDepth 100000 in
theorem cx3_byteAt {l : Launch} {D : va_G} {cI cB cS cJ : ClassId} {K : State → Prop} (EX : kEX D cI cB cS cJ K) (aL : Nat → Nat → Nat) (L : (Nat → St)) (x1 : Int32) : kI l D K yX3_byteAt wsX3_byteAt 0 0 [.ref (aL 7 0), .int x1] (lsW cI cB cS aL L) (fx3_byteAt L x1) (lsW cI cB cS aL L) := by
  have E := EX.1
  refine kI_of (own := RX3) (cc := cX3_byteAt) (maxL := 2) (tys := kty cI cB cS cJ) (fun U h => (E.2 U h).1) (by decide) rfl rfl (Nat.le_of_ble_eq_true rfl) ?_
  intro p e s m below meth c A ls hx hb hr hml hts hown hlk hKs hK hP hD hA hS hl
  have hl : lv_has ls 2 [(0, .ref (aL 7 0)), (1, .int x1)] := hl
  have hX : CallFix p m c cX3_byteAt 2 s _ wsX3_byteAt RX3 := ⟨hx, hb, hml, hown, hts⟩
  have hinX3 : ∀ w ∈ wsX30, w ∈ wsX3_byteAt := fun w h => List.mem_cons_of_mem _ (List.mem_append_right _ h)
  have q1 := hts (.fieldLink RX3 26 "LabelStation" "text" "[B") (List.mem_of_getElem? (i := 1) rfl)
  generalize hR : fx3_byteAt L x1 = R
  rw [fx3_byteAt] at hR
  refine lv_iload_n hx hb dX3_byteAt_0 rfl (lv_at hl 1 rfl) ?_
  refine lv_if_lt (tgt := 22) hx hb dX3_byteAt_1 (by decide) (fun c1 => ?_) (fun c1 => ?_)
  · rw [if_pos c1] at hR
    refine lv_iconst (v := (-1)) hx hb dX3_byteAt_22 (by decide) ?_
    subst hR
    exact krI hx hb hr hlk hP hD hS dX3_byteAt_23 rfl rfl
  · rw [if_neg c1] at hR
    refine lv_iload_n hx hb dX3_byteAt_4 rfl (lv_at hl 1 rfl) ?_
    refine lv_aload_n hx hb dX3_byteAt_5 rfl (lv_at hl 0 rfl) ?_
    refine va_get (D := D) (ci := 3) (v := .ref (aL 7 3)) (C := RX3) (T := TX3) (N := 5) hx hb hts hinX3 hown hK hP 0 rfl rfl 3 (by decide) q1 (fun _ h9 => h9) rfl dX3_byteAt_6 ?_
    refine va_alen (v := nI 80) hx hb hK hP 101 1 rfl rfl rfl dX3_byteAt_9 ?_
    refine lv_icmp_ge (tgt := 22) hx hb dX3_byteAt_10 (by decide) (fun c2 => ?_) (fun c2 => ?_)
    · rw [if_pos c2] at hR
      refine lv_iconst (v := (-1)) hx hb dX3_byteAt_22 (by decide) ?_
      subst hR
      exact krI hx hb hr hlk hP hD hS dX3_byteAt_23 rfl rfl
    · rw [if_neg c2] at hR
      refine lv_aload_n hx hb dX3_byteAt_13 rfl (lv_at hl 0 rfl) ?_
      refine va_get (D := D) (ci := 3) (v := .ref (aL 7 3)) (C := RX3) (T := TX3) (N := 5) hx hb hts hinX3 hown hK hP 0 rfl rfl 3 (by decide) q1 (fun _ h9 => h9) rfl dX3_byteAt_14 ?_
      refine lv_iload_n hx hb dX3_byteAt_17 rfl (lv_at hl 1 rfl) ?_
      refine va_bald hx hb hK hP 101 1 rfl rfl (kin_of c1 c2 (by decide)) dX3_byteAt_18 ?_
      refine lv_goto (tgt := 23) hx hb dX3_byteAt_19 (by decide) ?_
      subst hR
      exact krI hx hb hr hlk hP hD hS dX3_byteAt_23 rfl rfl

theorem hdX3_syntaxError : yX3_syntaxError.cls = RX3 ∧ yX3_syntaxError.cls ≠ "java/lang/invoke/MethodHandle" ∧ yX3_syntaxError.cls ≠ "java/lang/invoke/VarHandle" ∧ (parseMethodDescriptor yX3_syntaxError.desc).map (fun d => d.parameters.length) = some 0 := by decide +kernel
def fx3_syntaxError_L2 (L : (Nat → St)) : Nat → Int32 → Int32
  | 0, _ => 0
  | n2 + 1, y1 => (if ((L 7) 1 2) ≤ y1 then (-1) else (bnd (fx3_byteAt L y1) (fun v3002 => (if v3002 < 48 then (if (fx3_ticksOf v3002) = 0 then y1 else fx3_syntaxError_L2 L n2 (y1 + 1)) else (if 51 < v3002 then (if (fx3_ticksOf v3002) = 0 then y1 else fx3_syntaxError_L2 L n2 (y1 + 1)) else fx3_syntaxError_L2 L n2 (y1 + 1))))))
def sx3_syntaxError_L2 (L : (Nat → St)) : Nat → Int32 → Prop
  | 0, _ => False
  | n2 + 1, y1 => (if ((L 7) 1 2) ≤ y1 then True else (bnd (fx3_byteAt L y1) (fun v3002 => (if v3002 < 48 then (if (fx3_ticksOf v3002) = 0 then True else sx3_syntaxError_L2 L n2 (y1 + 1)) else (if 51 < v3002 then (if (fx3_ticksOf v3002) = 0 then True else sx3_syntaxError_L2 L n2 (y1 + 1)) else sx3_syntaxError_L2 L n2 (y1 + 1))))))
def fx3_syntaxError (L : (Nat → St)) : Int32 := fx3_syntaxError_L2 L kfu 0
def sx3_syntaxError (L : (Nat → St)) : Prop := sx3_syntaxError_L2 L kfu 0
set_option maxHeartbeats 4000000 in
set_option maxRecDepth 100000 in
theorem cx3_syntaxError {l : Launch} {D : va_G} {cI cB cS cJ : ClassId} {K : State → Prop} (EX : kEX D cI cB cS cJ K) (aL : Nat → Nat → Nat) (L : (Nat → St)) (hF : sx3_syntaxError L) : kI l D K yX3_syntaxError wsX3_syntaxError 1 21 [.ref (aL 7 0)] (lsW cI cB cS aL L) (fx3_syntaxError L) (lsW cI cB cS aL L) := by
  have E := EX.1
  refine kI_of (own := RX3) (cc := cX3_syntaxError) (maxL := 4) (tys := kty cI cB cS cJ) (fun U h => (E.2 U h).1) (by decide) rfl rfl (Nat.le_of_ble_eq_true rfl) ?_
  intro p e s m below meth c A ls hx hb hr hml hts hown hlk hKs hK hP hD hA hS hl
  have hl : lv_has ls 4 [(0, .ref (aL 7 0))] := hl
  have hX : CallFix p m c cX3_syntaxError 4 s _ wsX3_syntaxError RX3 := ⟨hx, hb, hml, hown, hts⟩
  have hinX3 : ∀ w ∈ wsX30, w ∈ wsX3_syntaxError := fun w h => List.mem_cons_of_mem _ (List.mem_append_right _ h)
  have q1 := hts (.fieldLink RX3 30 "LabelStation" "textLength" "I") (List.mem_of_getElem? (i := 1) rfl)
  generalize hR : fx3_syntaxError L = R
  rw [fx3_syntaxError] at hR
  rw [sx3_syntaxError] at hF
  refine lv_iconst (v := 0) hx hb dX3_syntaxError_0 (by decide) ?_
  refine lv_istore_n (lv' := [(1, .int 0), (0, .ref (aL 7 0))]) hx hb dX3_syntaxError_1 rfl hl (by decide) rfl (fun ls hl => ?_)
  have loop2 : ∀ (n2 : Nat) (y1 : Int32) (H : Heap) (locs : List Loc) (ls : Array Slot), fx3_syntaxError_L2 L n2 y1 = R → sx3_syntaxError_L2 L n2 y1 → va_P D vwCl (lsW cI cB cS aL L) H → va_D A (lsW cI cB cS aL L) → va_S A s.heap H locs → lv_has ls 4 [(1, .int y1), (0, .ref (aL 7 0))] → W p l e (kRm 1 21) s m ([.ref (aL 7 0)] : List Value).toArray below meth c H locs 0 0 (kQI D below R (lsW cI cB cS aL L) A ([.ref (aL 7 0)] : List Value).toArray s) (F0 m 2 ls []) := by
    intro n2
    induction n2 with
    | zero => intro y1 H locs ls hR hF; exact hF.elim
    | succ n2 ih2 =>
      intro y1 H locs ls hR hF hP hD hS hl
      rw [fx3_syntaxError_L2] at hR
      rw [sx3_syntaxError_L2] at hF
      refine lv_iload_n hx hb dX3_syntaxError_2 rfl (lv_at hl 0 rfl) ?_
      refine lv_aload_n hx hb dX3_syntaxError_3 rfl (lv_at hl 1 rfl) ?_
      refine va_get (D := D) (ci := 3) (v := .int ((L 7) 1 2)) (C := RX3) (T := TX3) (N := 5) hx hb hts hinX3 hown hK hP 0 rfl rfl 4 (by decide) q1 (fun _ h9 => h9) rfl dX3_syntaxError_4 ?_
      refine lv_icmp_ge (tgt := 53) hx hb dX3_syntaxError_7 (by decide) (fun c3001 => ?_) (fun c3001 => ?_)
      · rw [if_pos c3001] at hR hF
        refine lv_iconst (v := (-1)) hx hb dX3_syntaxError_53 (by decide) ?_
        subst hR
        exact krI hx hb hr hlk hP hD hS dX3_syntaxError_54 rfl rfl
      · rw [if_neg c3001] at hR hF
        refine lv_aload_n hx hb dX3_syntaxError_10 rfl (lv_at hl 1 rfl) ?_
        refine lv_iload_n hx hb dX3_syntaxError_11 rfl (lv_at hl 0 rfl) ?_
        refine kcI (ci := 3) (q0 := 0) (As := [.int y1]) (rest := []) E.1 (cx3_byteAt EX aL L y1) hX (cwV 1 hts gX3_syntaxError_X3_byteAt rfl rfl rfl hdX3_byteAt ⟨Nat.le_of_ble_eq_true rfl, Nat.le_of_ble_eq_true rfl⟩) hKs hK hP hD hS hA _ _ (kw_self _) (kw_self _).symm rfl rfl rfl rfl hl.1 (Nat.le_of_ble_eq_true rfl) dX3_syntaxError_12 ⟨Nat.zero_le _, Nat.zero_le _⟩ (fun H locs hP hD hS => ?_)
        generalize ev3002 : fx3_byteAt L y1 = v3002 at hR hF ⊢
        replace hR := bnd_e hR
        replace hF := bnd_p hF
        refine lv_istore_n (lv' := [(2, .int v3002), (1, .int y1), (0, .ref (aL 7 0))]) hx hb dX3_syntaxError_15 rfl hl (by decide) rfl (fun ls hl => ?_)
        refine lv_iload_n hx hb dX3_syntaxError_16 rfl (lv_at hl 0 rfl) ?_
        refine lv_bipush (v := 48) hx hb dX3_syntaxError_17 (by decide) ?_
        refine lv_icmp_lt (tgt := 32) hx hb dX3_syntaxError_19 (by decide) (fun c3003 => ?_) (fun c3003 => ?_)
        · rw [if_pos c3003] at hR hF
          refine lv_iconst (v := 0) hx hb dX3_syntaxError_32 (by decide) ?_
          refine lv_istore_n (lv' := [(3, .int 0), (2, .int v3002), (1, .int y1), (0, .ref (aL 7 0))]) hx hb dX3_syntaxError_33 rfl hl (by decide) rfl (fun ls hl => ?_)
          refine lv_iload_n hx hb dX3_syntaxError_34 rfl (lv_at hl 0 rfl) ?_
          refine lv_if_ne (tgt := 47) hx hb dX3_syntaxError_35 (by decide) (fun c => absurd (by decide) c) (fun _ => ?_)
          refine lv_iload_n hx hb dX3_syntaxError_38 rfl (lv_at hl 1 rfl) ?_
          refine kcsI (As := [.int v3002]) (rest := []) E.1 (cx3_ticksOf E v3002) hX (va_cwS 1 hts gX3_syntaxError_X3_ticksOf rfl rfl rfl hdX3_ticksOf.2 ⟨Nat.le_of_ble_eq_true rfl, Nat.le_of_ble_eq_true rfl⟩) hKs hP hD hS hA _ _ (kw_nil _) (kw_nil _).symm rfl rfl hl.1 (Nat.le_of_ble_eq_true rfl) dX3_syntaxError_39 ⟨Nat.zero_le _, Nat.zero_le _⟩ (fun H locs hP hD hS => ?_)
          refine lv_if_ne (tgt := 47) hx hb dX3_syntaxError_42 (by decide) (fun c3004 => ?_) (fun c3004 => ?_)
          · rw [if_neg c3004] at hR hF
            refine lv_iinc (v := y1 + 1) (lv' := [(1, .int (y1 + 1)), (3, .int 0), (2, .int v3002), (0, .ref (aL 7 0))]) hx hb dX3_syntaxError_47 hl (k := 2) rfl rfl (by decide) rfl (fun ls hl => ?_)
            refine lv_goto (tgt := 2) hx hb dX3_syntaxError_50 (by decide) ?_
            exact ih2 (y1 + 1) _ _ ls hR hF hP hD hS (lv_sub hl [0, 3] rfl)
          · rw [if_pos c3004] at hR hF
            refine lv_iload_n hx hb dX3_syntaxError_45 rfl (lv_at hl 2 rfl) ?_
            subst hR
            exact krI hx hb hr hlk hP hD hS dX3_syntaxError_46 rfl rfl
        · rw [if_neg c3003] at hR hF
          refine lv_iload_n hx hb dX3_syntaxError_22 rfl (lv_at hl 0 rfl) ?_
          refine lv_bipush (v := 51) hx hb dX3_syntaxError_23 (by decide) ?_
          refine lv_icmp_gt (tgt := 32) hx hb dX3_syntaxError_25 (by decide) (fun c3005 => ?_) (fun c3005 => ?_)
          · rw [if_pos c3005] at hR hF
            refine lv_iconst (v := 0) hx hb dX3_syntaxError_32 (by decide) ?_
            refine lv_istore_n (lv' := [(3, .int 0), (2, .int v3002), (1, .int y1), (0, .ref (aL 7 0))]) hx hb dX3_syntaxError_33 rfl hl (by decide) rfl (fun ls hl => ?_)
            refine lv_iload_n hx hb dX3_syntaxError_34 rfl (lv_at hl 0 rfl) ?_
            refine lv_if_ne (tgt := 47) hx hb dX3_syntaxError_35 (by decide) (fun c => absurd (by decide) c) (fun _ => ?_)
            refine lv_iload_n hx hb dX3_syntaxError_38 rfl (lv_at hl 1 rfl) ?_
            refine kcsI (As := [.int v3002]) (rest := []) E.1 (cx3_ticksOf E v3002) hX (va_cwS 1 hts gX3_syntaxError_X3_ticksOf rfl rfl rfl hdX3_ticksOf.2 ⟨Nat.le_of_ble_eq_true rfl, Nat.le_of_ble_eq_true rfl⟩) hKs hP hD hS hA _ _ (kw_nil _) (kw_nil _).symm rfl rfl hl.1 (Nat.le_of_ble_eq_true rfl) dX3_syntaxError_39 ⟨Nat.zero_le _, Nat.zero_le _⟩ (fun H locs hP hD hS => ?_)
            refine lv_if_ne (tgt := 47) hx hb dX3_syntaxError_42 (by decide) (fun c3006 => ?_) (fun c3006 => ?_)
            · rw [if_neg c3006] at hR hF
              refine lv_iinc (v := y1 + 1) (lv' := [(1, .int (y1 + 1)), (3, .int 0), (2, .int v3002), (0, .ref (aL 7 0))]) hx hb dX3_syntaxError_47 hl (k := 2) rfl rfl (by decide) rfl (fun ls hl => ?_)
              refine lv_goto (tgt := 2) hx hb dX3_syntaxError_50 (by decide) ?_
              exact ih2 (y1 + 1) _ _ ls hR hF hP hD hS (lv_sub hl [0, 3] rfl)
            · rw [if_pos c3006] at hR hF
              refine lv_iload_n hx hb dX3_syntaxError_45 rfl (lv_at hl 2 rfl) ?_
              subst hR
              exact krI hx hb hr hlk hP hD hS dX3_syntaxError_46 rfl rfl
          · rw [if_neg c3005] at hR hF
            refine lv_iconst (v := 1) hx hb dX3_syntaxError_28 (by decide) ?_
            refine lv_goto (tgt := 33) hx hb dX3_syntaxError_29 (by decide) ?_
            refine lv_istore_n (lv' := [(3, .int 1), (2, .int v3002), (1, .int y1), (0, .ref (aL 7 0))]) hx hb dX3_syntaxError_33 rfl hl (by decide) rfl (fun ls hl => ?_)
            refine lv_iload_n hx hb dX3_syntaxError_34 rfl (lv_at hl 0 rfl) ?_
            refine lv_if_ne (tgt := 47) hx hb dX3_syntaxError_35 (by decide) (fun _ => ?_) (fun c => absurd c (by decide))
            refine lv_iinc (v := y1 + 1) (lv' := [(1, .int (y1 + 1)), (3, .int 1), (2, .int v3002), (0, .ref (aL 7 0))]) hx hb dX3_syntaxError_47 hl (k := 2) rfl rfl (by decide) rfl (fun ls hl => ?_)
            refine lv_goto (tgt := 2) hx hb dX3_syntaxError_50 (by decide) ?_
            exact ih2 (y1 + 1) _ _ ls hR hF hP hD hS (lv_sub hl [0, 3] rfl)
  exact loop2 kfu 0 _ _ ls hR hF hP hD hS (lv_sub hl [0, 1] rfl)

theorem hdX3_setPlaces : yX3_setPlaces.cls = RX3 ∧ yX3_setPlaces.cls ≠ "java/lang/invoke/MethodHandle" ∧ yX3_setPlaces.cls ≠ "java/lang/invoke/VarHandle" ∧ (parseMethodDescriptor yX3_setPlaces.desc).map (fun d => d.parameters.length) = some 5 := by decide +kernel
def fx3_setPlaces (L : (Nat → St)) (x1 : Int32) (x2 : Int32) (x3 : Int32) (x4 : Int32) (x5 : Int32) : Int32 × Int32 × ((Nat → St)) := (if x2 ≤ x1 then (1, 0, L) else (if x3 ≤ x2 then (1, 0, L) else (if x4 ≤ x3 then (1, 0, L) else (if x5 ≤ x4 then (1, 0, L) else (if x1 < 1 then (1, 0, L) else (if x5 ≤ 1000 then (if 0 < (fx2_count 4 20 80 (stT (L 0) 0)) then (2, 0, L) else (if (fx2_count 6 35 210 (stT (L 0) 1)) ≤ 0 then (bnd (fxh_save L) (fun L9 => (bnd (va_up L9 0 (fx1_putPlace (L9 0) 0 x1)) (fun L10 => (bnd (va_up L10 0 (fx1_putPlace (L10 0) 1 x2)) (fun L11 => (bnd (va_up L11 0 (fx1_putPlace (L11 0) 2 x3)) (fun L12 => (bnd (va_up L12 0 (fx1_putPlace (L12 0) 3 x4)) (fun L13 => (bnd (va_up L13 0 (fx1_putPlace (L13 0) 4 x5)) (fun L14 => (0, fx1_place (L9 0) 4, L14))))))))))))) else (2, 0, L))) else (1, 0, L)))))))
def sx3_setPlaces (L : (Nat → St)) (x1 : Int32) (x2 : Int32) (x3 : Int32) (x4 : Int32) (x5 : Int32) : Prop := (if x2 ≤ x1 then True else (if x3 ≤ x2 then True else (if x4 ≤ x3 then True else (if x5 ≤ x4 then True else (if x1 < 1 then True else (if x5 ≤ 1000 then (if 0 < (fx2_count 4 20 80 (stT (L 0) 0)) then True else (if (fx2_count 6 35 210 (stT (L 0) 1)) ≤ 0 then sxh_save L else True)) else True))))))
set_option maxHeartbeats 4000000 in
set_option maxRecDepth 100000 in
theorem cx3_setPlaces {l : Launch} {D : va_G} {cI cB cS cJ : ClassId} {K : State → Prop} (EX : kEX D cI cB cS cJ K) (hfl : l.stackTraces = false) (aL : Nat → Nat → Nat) (L : (Nat → St)) (x1 : Int32) (x2 : Int32) (x3 : Int32) (x4 : Int32) (x5 : Int32) (hF : sx3_setPlaces L x1 x2 x3 x4 x5) : kX l D K yX3_setPlaces wsX3_setPlaces 6 165 [.ref (aL 7 0), .int x1, .int x2, .int x3, .int x4, .int x5] (lsW cI cB cS aL L) ((fx3_setPlaces L x1 x2 x3 x4 x5).1) ((fx3_setPlaces L x1 x2 x3 x4 x5).2.1) (lsW cI cB cS aL ((fx3_setPlaces L x1 x2 x3 x4 x5).2.2)) := by
  have E := EX.1
  refine kX_of (own := RX3) (cc := cX3_setPlaces) (maxL := 8) (tys := kty cI cB cS cJ) (fun U h => (E.2 U h).1) (by decide) rfl rfl (Nat.le_of_ble_eq_true rfl) ?_
  intro p e s m below meth c A ls hx hb hr hml hts hown hlk hKs hK hP hD hA hS hl hSt htab
  have hl : lv_has ls 8 [(0, .ref (aL 7 0)), (1, .int x1), (2, .int x2), (3, .int x3), (4, .int x4), (5, .int x5)] := hl
  have hX : CallFix p m c cX3_setPlaces 8 s _ wsX3_setPlaces RX3 := ⟨hx, hb, hml, hown, hts⟩
  have hinX3 : ∀ w ∈ wsX30, w ∈ wsX3_setPlaces := fun w h => List.mem_cons_of_mem _ (List.mem_append_left _ (List.mem_append_left _ (List.mem_append_left _ (List.mem_append_left _ (List.mem_append_left _ (List.mem_append_right _ h))))))
  have hinX1 : ∀ w ∈ wsX10, w ∈ wsX3_setPlaces := fun w h => List.mem_cons_of_mem _ (List.mem_append_left _ (List.mem_append_left _ (List.mem_append_left _ (List.mem_append_left _ (List.mem_append_right _ h)))))
  have q1 := hts (.classLink RX3 34 "java/lang/IllegalArgumentException") (List.mem_of_getElem? (i := 1) rfl)
  have q2 := hts (.initialized "java/lang/IllegalArgumentException") (List.mem_of_getElem? (i := 2) rfl)
  have q3 := hts (.classLink RX3 54 "java/lang/IllegalStateException") (List.mem_of_getElem? (i := 3) rfl)
  have q4 := hts (.initialized "java/lang/IllegalStateException") (List.mem_of_getElem? (i := 4) rfl)
  have q5 := hts (.fieldLink RX3 10 "LabelStation" "state" "LLabelStation$State;") (List.mem_of_getElem? (i := 5) rfl)
  have q6 := hts (.fieldLink RX3 22 "LabelStation" "history" "LLabelStation$History;") (List.mem_of_getElem? (i := 6) rfl)
  generalize hR : fx3_setPlaces L x1 x2 x3 x4 x5 = R
  rw [fx3_setPlaces] at hR
  rw [sx3_setPlaces] at hF
  refine lv_iload_n hx hb dX3_setPlaces_0 rfl (lv_at hl 1 rfl) ?_
  refine lv_iload_n hx hb dX3_setPlaces_1 rfl (lv_at hl 2 rfl) ?_
  refine lv_icmp_ge (tgt := 27) hx hb dX3_setPlaces_2 (by decide) (fun c1 => ?_) (fun c1 => ?_)
  · rw [if_pos c1] at hR hF
    refine lv_iconst (v := 0) hx hb dX3_setPlaces_27 (by decide) ?_
    refine lv_istore (lv' := [(6, .int 0), (0, .ref (aL 7 0)), (1, .int x1), (2, .int x2), (3, .int x3), (4, .int x4), (5, .int x5)]) hx hb dX3_setPlaces_28 hl (by decide) rfl (fun ls hl => ?_)
    refine lv_iload hx hb dX3_setPlaces_30 (lv_at hl 0 rfl) ?_
    refine lv_if_eq (tgt := 48) hx hb dX3_setPlaces_32 (by decide) (fun _ => ?_) (fun c => absurd (by decide) c)
    obtain ⟨sa, hsa⟩ := (EX.2 s hKs).1.1
    exact (by subst hR; exact kthrow hx hb hfl hown kXfit1 q1 q2 hsa (vx_hat (fun w h => hts w (List.mem_cons_of_mem _ (List.mem_append_left _ (List.mem_append_right _ h)))) (fun _ h => h) (fun w h => va_Nw.use (kXot1 w h) ((EX.2 s hKs).2.1 w h))) kXgood1 hSt hP hD hS (hl.1.trans hml.symm) dX3_setPlaces_48 dX3_setPlaces_51 dX3_setPlaces_52 dX3_setPlaces_54 dX3_setPlaces_57 htab (Nat.le_of_ble_eq_true rfl) (Nat.le_of_ble_eq_true rfl) hlk kec1 kXe1)
  · rw [if_neg c1] at hR hF
    refine lv_iload_n hx hb dX3_setPlaces_5 rfl (lv_at hl 2 rfl) ?_
    refine lv_iload_n hx hb dX3_setPlaces_6 rfl (lv_at hl 3 rfl) ?_
    refine lv_icmp_ge (tgt := 27) hx hb dX3_setPlaces_7 (by decide) (fun c2 => ?_) (fun c2 => ?_)
    · rw [if_pos c2] at hR hF
      refine lv_iconst (v := 0) hx hb dX3_setPlaces_27 (by decide) ?_
      refine lv_istore (lv' := [(6, .int 0), (0, .ref (aL 7 0)), (1, .int x1), (2, .int x2), (3, .int x3), (4, .int x4), (5, .int x5)]) hx hb dX3_setPlaces_28 hl (by decide) rfl (fun ls hl => ?_)
      refine lv_iload hx hb dX3_setPlaces_30 (lv_at hl 0 rfl) ?_
      refine lv_if_eq (tgt := 48) hx hb dX3_setPlaces_32 (by decide) (fun _ => ?_) (fun c => absurd (by decide) c)
      obtain ⟨sa, hsa⟩ := (EX.2 s hKs).1.1
      exact (by subst hR; exact kthrow hx hb hfl hown kXfit1 q1 q2 hsa (vx_hat (fun w h => hts w (List.mem_cons_of_mem _ (List.mem_append_left _ (List.mem_append_right _ h)))) (fun _ h => h) (fun w h => va_Nw.use (kXot1 w h) ((EX.2 s hKs).2.1 w h))) kXgood1 hSt hP hD hS (hl.1.trans hml.symm) dX3_setPlaces_48 dX3_setPlaces_51 dX3_setPlaces_52 dX3_setPlaces_54 dX3_setPlaces_57 htab (Nat.le_of_ble_eq_true rfl) (Nat.le_of_ble_eq_true rfl) hlk kec1 kXe1)
    · rw [if_neg c2] at hR hF
      refine lv_iload_n hx hb dX3_setPlaces_10 rfl (lv_at hl 3 rfl) ?_
      refine lv_iload hx hb dX3_setPlaces_11 (lv_at hl 4 rfl) ?_
      refine lv_icmp_ge (tgt := 27) hx hb dX3_setPlaces_13 (by decide) (fun c3 => ?_) (fun c3 => ?_)
      · rw [if_pos c3] at hR hF
        refine lv_iconst (v := 0) hx hb dX3_setPlaces_27 (by decide) ?_
        refine lv_istore (lv' := [(6, .int 0), (0, .ref (aL 7 0)), (1, .int x1), (2, .int x2), (3, .int x3), (4, .int x4), (5, .int x5)]) hx hb dX3_setPlaces_28 hl (by decide) rfl (fun ls hl => ?_)
        refine lv_iload hx hb dX3_setPlaces_30 (lv_at hl 0 rfl) ?_
        refine lv_if_eq (tgt := 48) hx hb dX3_setPlaces_32 (by decide) (fun _ => ?_) (fun c => absurd (by decide) c)
        obtain ⟨sa, hsa⟩ := (EX.2 s hKs).1.1
        exact (by subst hR; exact kthrow hx hb hfl hown kXfit1 q1 q2 hsa (vx_hat (fun w h => hts w (List.mem_cons_of_mem _ (List.mem_append_left _ (List.mem_append_right _ h)))) (fun _ h => h) (fun w h => va_Nw.use (kXot1 w h) ((EX.2 s hKs).2.1 w h))) kXgood1 hSt hP hD hS (hl.1.trans hml.symm) dX3_setPlaces_48 dX3_setPlaces_51 dX3_setPlaces_52 dX3_setPlaces_54 dX3_setPlaces_57 htab (Nat.le_of_ble_eq_true rfl) (Nat.le_of_ble_eq_true rfl) hlk kec1 kXe1)
      · rw [if_neg c3] at hR hF
        refine lv_iload hx hb dX3_setPlaces_16 (lv_at hl 4 rfl) ?_
        refine lv_iload hx hb dX3_setPlaces_18 (lv_at hl 5 rfl) ?_
        refine lv_icmp_ge (tgt := 27) hx hb dX3_setPlaces_20 (by decide) (fun c4 => ?_) (fun c4 => ?_)
        · rw [if_pos c4] at hR hF
          refine lv_iconst (v := 0) hx hb dX3_setPlaces_27 (by decide) ?_
          refine lv_istore (lv' := [(6, .int 0), (0, .ref (aL 7 0)), (1, .int x1), (2, .int x2), (3, .int x3), (4, .int x4), (5, .int x5)]) hx hb dX3_setPlaces_28 hl (by decide) rfl (fun ls hl => ?_)
          refine lv_iload hx hb dX3_setPlaces_30 (lv_at hl 0 rfl) ?_
          refine lv_if_eq (tgt := 48) hx hb dX3_setPlaces_32 (by decide) (fun _ => ?_) (fun c => absurd (by decide) c)
          obtain ⟨sa, hsa⟩ := (EX.2 s hKs).1.1
          exact (by subst hR; exact kthrow hx hb hfl hown kXfit1 q1 q2 hsa (vx_hat (fun w h => hts w (List.mem_cons_of_mem _ (List.mem_append_left _ (List.mem_append_right _ h)))) (fun _ h => h) (fun w h => va_Nw.use (kXot1 w h) ((EX.2 s hKs).2.1 w h))) kXgood1 hSt hP hD hS (hl.1.trans hml.symm) dX3_setPlaces_48 dX3_setPlaces_51 dX3_setPlaces_52 dX3_setPlaces_54 dX3_setPlaces_57 htab (Nat.le_of_ble_eq_true rfl) (Nat.le_of_ble_eq_true rfl) hlk kec1 kXe1)
        · rw [if_neg c4] at hR hF
          refine lv_iconst (v := 1) hx hb dX3_setPlaces_23 (by decide) ?_
          refine lv_goto (tgt := 28) hx hb dX3_setPlaces_24 (by decide) ?_
          refine lv_istore (lv' := [(6, .int 1), (0, .ref (aL 7 0)), (1, .int x1), (2, .int x2), (3, .int x3), (4, .int x4), (5, .int x5)]) hx hb dX3_setPlaces_28 hl (by decide) rfl (fun ls hl => ?_)
          refine lv_iload hx hb dX3_setPlaces_30 (lv_at hl 0 rfl) ?_
          refine lv_if_eq (tgt := 48) hx hb dX3_setPlaces_32 (by decide) (fun c => absurd c (by decide)) (fun _ => ?_)
          refine lv_iload_n hx hb dX3_setPlaces_35 rfl (lv_at hl 2 rfl) ?_
          refine lv_iconst (v := 1) hx hb dX3_setPlaces_36 (by decide) ?_
          refine lv_icmp_lt (tgt := 48) hx hb dX3_setPlaces_37 (by decide) (fun c5 => ?_) (fun c5 => ?_)
          · rw [if_pos c5] at hR hF
            obtain ⟨sa, hsa⟩ := (EX.2 s hKs).1.1
            exact (by subst hR; exact kthrow hx hb hfl hown kXfit1 q1 q2 hsa (vx_hat (fun w h => hts w (List.mem_cons_of_mem _ (List.mem_append_left _ (List.mem_append_right _ h)))) (fun _ h => h) (fun w h => va_Nw.use (kXot1 w h) ((EX.2 s hKs).2.1 w h))) kXgood1 hSt hP hD hS (hl.1.trans hml.symm) dX3_setPlaces_48 dX3_setPlaces_51 dX3_setPlaces_52 dX3_setPlaces_54 dX3_setPlaces_57 htab (Nat.le_of_ble_eq_true rfl) (Nat.le_of_ble_eq_true rfl) hlk kec1 kXe1)
          · rw [if_neg c5] at hR hF
            refine lv_iload hx hb dX3_setPlaces_40 (lv_at hl 6 rfl) ?_
            refine lv_sipush (v := 1000) hx hb dX3_setPlaces_42 (by decide) ?_
            refine lv_icmp_le (tgt := 58) hx hb dX3_setPlaces_45 (by decide) (fun c6 => ?_) (fun c6 => ?_)
            · rw [if_pos c6] at hR hF
              refine lv_aload_n hx hb dX3_setPlaces_58 rfl (lv_at hl 1 rfl) ?_
              refine va_get (D := D) (ci := 3) (v := .ref (aL 0 0)) (C := RX3) (T := TX3) (N := 5) hx hb hts hinX3 hown hK hP 0 rfl rfl 0 (by decide) q5 (fun _ h9 => h9) rfl dX3_setPlaces_59 ?_
              refine va_getN (D := D) (ci := 1) (v := .ref (aL 0 4)) (C := RX1) (T := TX1) (N := 16) hx hb hts hinX1 hown hK hP 15 rfl rfl 3 (by decide) (va_Nw.use rfl ((E.2 s hKs).2.1)) (fun _ h9 => h9) rfl dX3_setPlaces_62 ?_
              refine kcI (ci := 2) (q0 := 0) (As := []) (rest := []) E.1 (cx2_count E (aL 0 4) (aL 0 5) 4 20 80 (by decide) (stT (L 0) 0)) hX (cwV 0 hts gX3_setPlaces_X2_count rfl rfl rfl hdX2_count ⟨Nat.le_of_ble_eq_true rfl, Nat.le_of_ble_eq_true rfl⟩) hKs hK hP hD hS hA _ _ (ls_tb0 cI cB cS aL L) (ls_tb0 cI cB cS aL L).symm rfl rfl rfl rfl hl.1 (Nat.le_of_ble_eq_true rfl) dX3_setPlaces_65 ⟨Nat.zero_le _, Nat.zero_le _⟩ (fun H locs hP hD hS => ?_)
              refine lv_if_gt (tgt := 84) hx hb dX3_setPlaces_68 (by decide) (fun c7 => ?_) (fun c7 => ?_)
              · rw [if_pos c7] at hR hF
                obtain ⟨sa, hsa⟩ := (EX.2 s hKs).1.2.1
                exact (by subst hR; exact kthrow hx hb hfl hown kXfit2 q3 q4 hsa (vx_hat (fun w h => hts w (List.mem_cons_of_mem _ (List.mem_append_right _ h))) (fun _ h => h) (fun w h => va_Nw.use (kXot2 w h) ((EX.2 s hKs).2.2.1 w h))) kXgood2 hSt hP hD hS (hl.1.trans hml.symm) dX3_setPlaces_84 dX3_setPlaces_87 dX3_setPlaces_88 dX3_setPlaces_90 dX3_setPlaces_93 htab (Nat.le_of_ble_eq_true rfl) (Nat.le_of_ble_eq_true rfl) hlk kec2 kXe2)
              · rw [if_neg c7] at hR hF
                refine lv_aload_n hx hb dX3_setPlaces_71 rfl (lv_at hl 1 rfl) ?_
                refine va_get (D := D) (ci := 3) (v := .ref (aL 0 0)) (C := RX3) (T := TX3) (N := 5) hx hb hts hinX3 hown hK hP 0 rfl rfl 0 (by decide) q5 (fun _ h9 => h9) rfl dX3_setPlaces_72 ?_
                refine va_getN (D := D) (ci := 1) (v := .ref (aL 0 6)) (C := RX1) (T := TX1) (N := 16) hx hb hts hinX1 hown hK hP 15 rfl rfl 4 (by decide) (va_Nw.use rfl ((E.2 s hKs).2.2.1)) (fun _ h9 => h9) rfl dX3_setPlaces_75 ?_
                refine kcI (ci := 2) (q0 := 0) (As := []) (rest := []) E.1 (cx2_count E (aL 0 6) (aL 0 7) 6 35 210 (by decide) (stT (L 0) 1)) hX (cwV 0 hts gX3_setPlaces_X2_count rfl rfl rfl hdX2_count ⟨Nat.le_of_ble_eq_true rfl, Nat.le_of_ble_eq_true rfl⟩) hKs hK hP hD hS hA _ _ (ls_tb1 cI cB cS aL L) (ls_tb1 cI cB cS aL L).symm rfl rfl rfl rfl hl.1 (Nat.le_of_ble_eq_true rfl) dX3_setPlaces_78 ⟨Nat.zero_le _, Nat.zero_le _⟩ (fun H locs hP hD hS => ?_)
                refine lv_if_le (tgt := 94) hx hb dX3_setPlaces_81 (by decide) (fun c8 => ?_) (fun c8 => ?_)
                · rw [if_pos c8] at hR hF
                  refine lv_aload_n hx hb dX3_setPlaces_94 rfl (lv_at hl 1 rfl) ?_
                  refine va_get (D := D) (ci := 3) (v := .ref (aL 7 1)) (C := RX3) (T := TX3) (N := 5) hx hb hts hinX3 hown hK hP 0 rfl rfl 2 (by decide) q6 (fun _ h9 => h9) rfl dX3_setPlaces_95 ?_
                  refine lv_aload_n hx hb dX3_setPlaces_98 rfl (lv_at hl 1 rfl) ?_
                  refine va_get (D := D) (ci := 3) (v := .ref (aL 0 0)) (C := RX3) (T := TX3) (N := 5) hx hb hts hinX3 hown hK hP 0 rfl rfl 0 (by decide) q5 (fun _ h9 => h9) rfl dX3_setPlaces_99 ?_
                  have hs15 := hF
                  refine kcV (ci := 0) (q0 := 14) (As := [.ref (aL 0 0)]) (rest := []) E.1 (cx0_save E aL L (hjn L) (hix_lt hs15.1) (hix_at hs15.1) hs15.2) hX (cwV 1 hts gX3_setPlaces_X0_save rfl rfl rfl hdX0_save ⟨Nat.le_of_ble_eq_true rfl, Nat.le_of_ble_eq_true rfl⟩) hKs hK hP hD hS hA _ _ (ls_hs cI cB cS aL L) (lsh_save cI cB cS aL L hs15.1) rfl rfl rfl rfl hl.1 (Nat.le_of_ble_eq_true rfl) dX3_setPlaces_102 ⟨Nat.zero_le _, Nat.zero_le _⟩ (fun H locs hP hD hS => ?_)
                  have hP : va_P D vwCl (lsW cI cB cS aL (fxh_save L)) H := hP
                  have hD : va_D A (lsW cI cB cS aL (fxh_save L)) := hD
                  obtain ⟨L9, hR, hP, hD⟩ := kgen (P := fun X9 => va_P D vwCl (lsW cI cB cS aL X9) H ∧ va_D A (lsW cI cB cS aL X9)) hR ⟨hP, hD⟩
                  refine lv_aload_n hx hb dX3_setPlaces_105 rfl (lv_at hl 1 rfl) ?_
                  refine va_get (D := D) (ci := 3) (v := .ref (aL 0 0)) (C := RX3) (T := TX3) (N := 5) hx hb hts hinX3 hown hK hP 0 rfl rfl 0 (by decide) q5 (fun _ h9 => h9) rfl dX3_setPlaces_106 ?_
                  refine lv_iconst (v := 4) hx hb dX3_setPlaces_109 (by decide) ?_
                  refine kcI (ci := 1) (q0 := 0) (As := [.int 4]) (rest := []) E.1 (cx1_place E (aL 0) (L9 0) 4) hX (cwV 1 hts gX3_setPlaces_X1_place rfl rfl rfl hdX1_place ⟨Nat.le_of_ble_eq_true rfl, Nat.le_of_ble_eq_true rfl⟩) hKs hK hP hD hS hA _ _ (ls_st0 cI cB cS aL L9) (ls_st0 cI cB cS aL L9).symm rfl rfl rfl rfl hl.1 (Nat.le_of_ble_eq_true rfl) dX3_setPlaces_110 ⟨Nat.zero_le _, Nat.zero_le _⟩ (fun H locs hP hD hS => ?_)
                  refine lv_istore (lv' := [(7, .int (fx1_place (L9 0) 4)), (6, .int 1), (0, .ref (aL 7 0)), (1, .int x1), (2, .int x2), (3, .int x3), (4, .int x4), (5, .int x5)]) hx hb dX3_setPlaces_113 hl (by decide) rfl (fun ls hl => ?_)
                  refine lv_aload_n hx hb dX3_setPlaces_115 rfl (lv_at hl 2 rfl) ?_
                  refine va_get (D := D) (ci := 3) (v := .ref (aL 0 0)) (C := RX3) (T := TX3) (N := 5) hx hb hts hinX3 hown hK hP 0 rfl rfl 0 (by decide) q5 (fun _ h9 => h9) rfl dX3_setPlaces_116 ?_
                  refine lv_iconst (v := 0) hx hb dX3_setPlaces_119 (by decide) ?_
                  refine lv_iload_n hx hb dX3_setPlaces_120 rfl (lv_at hl 3 rfl) ?_
                  refine kcV (ci := 1) (q0 := 0) (As := [.int 0, .int x1]) (rest := []) E.1 (cx1_putPlace E (aL 0) (L9 0) 0 x1) hX (cwV 2 hts gX3_setPlaces_X1_putPlace rfl rfl rfl hdX1_putPlace ⟨Nat.le_of_ble_eq_true rfl, Nat.le_of_ble_eq_true rfl⟩) hKs hK hP hD hS hA _ _ (ls_st0 cI cB cS aL L9) (ls_st0' cI cB cS aL L9 _) rfl rfl rfl rfl hl.1 (Nat.le_of_ble_eq_true rfl) dX3_setPlaces_121 ⟨Nat.zero_le _, Nat.zero_le _⟩ (fun H locs hP hD hS => ?_)
                  have hP : va_P D vwCl (lsW cI cB cS aL (va_up L9 0 (fx1_putPlace (L9 0) 0 x1))) H := hP
                  have hD : va_D A (lsW cI cB cS aL (va_up L9 0 (fx1_putPlace (L9 0) 0 x1))) := hD
                  obtain ⟨L10, hR, hP, hD⟩ := kgen (P := fun X9 => va_P D vwCl (lsW cI cB cS aL X9) H ∧ va_D A (lsW cI cB cS aL X9)) hR ⟨hP, hD⟩
                  refine lv_aload_n hx hb dX3_setPlaces_124 rfl (lv_at hl 2 rfl) ?_
                  refine va_get (D := D) (ci := 3) (v := .ref (aL 0 0)) (C := RX3) (T := TX3) (N := 5) hx hb hts hinX3 hown hK hP 0 rfl rfl 0 (by decide) q5 (fun _ h9 => h9) rfl dX3_setPlaces_125 ?_
                  refine lv_iconst (v := 1) hx hb dX3_setPlaces_128 (by decide) ?_
                  refine lv_iload_n hx hb dX3_setPlaces_129 rfl (lv_at hl 4 rfl) ?_
                  refine kcV (ci := 1) (q0 := 0) (As := [.int 1, .int x2]) (rest := []) E.1 (cx1_putPlace E (aL 0) (L10 0) 1 x2) hX (cwV 2 hts gX3_setPlaces_X1_putPlace rfl rfl rfl hdX1_putPlace ⟨Nat.le_of_ble_eq_true rfl, Nat.le_of_ble_eq_true rfl⟩) hKs hK hP hD hS hA _ _ (ls_st0 cI cB cS aL L10) (ls_st0' cI cB cS aL L10 _) rfl rfl rfl rfl hl.1 (Nat.le_of_ble_eq_true rfl) dX3_setPlaces_130 ⟨Nat.zero_le _, Nat.zero_le _⟩ (fun H locs hP hD hS => ?_)
                  have hP : va_P D vwCl (lsW cI cB cS aL (va_up L10 0 (fx1_putPlace (L10 0) 1 x2))) H := hP
                  have hD : va_D A (lsW cI cB cS aL (va_up L10 0 (fx1_putPlace (L10 0) 1 x2))) := hD
                  obtain ⟨L11, hR, hP, hD⟩ := kgen (P := fun X9 => va_P D vwCl (lsW cI cB cS aL X9) H ∧ va_D A (lsW cI cB cS aL X9)) hR ⟨hP, hD⟩
                  refine lv_aload_n hx hb dX3_setPlaces_133 rfl (lv_at hl 2 rfl) ?_
                  refine va_get (D := D) (ci := 3) (v := .ref (aL 0 0)) (C := RX3) (T := TX3) (N := 5) hx hb hts hinX3 hown hK hP 0 rfl rfl 0 (by decide) q5 (fun _ h9 => h9) rfl dX3_setPlaces_134 ?_
                  refine lv_iconst (v := 2) hx hb dX3_setPlaces_137 (by decide) ?_
                  refine lv_iload_n hx hb dX3_setPlaces_138 rfl (lv_at hl 5 rfl) ?_
                  refine kcV (ci := 1) (q0 := 0) (As := [.int 2, .int x3]) (rest := []) E.1 (cx1_putPlace E (aL 0) (L11 0) 2 x3) hX (cwV 2 hts gX3_setPlaces_X1_putPlace rfl rfl rfl hdX1_putPlace ⟨Nat.le_of_ble_eq_true rfl, Nat.le_of_ble_eq_true rfl⟩) hKs hK hP hD hS hA _ _ (ls_st0 cI cB cS aL L11) (ls_st0' cI cB cS aL L11 _) rfl rfl rfl rfl hl.1 (Nat.le_of_ble_eq_true rfl) dX3_setPlaces_139 ⟨Nat.zero_le _, Nat.zero_le _⟩ (fun H locs hP hD hS => ?_)
                  have hP : va_P D vwCl (lsW cI cB cS aL (va_up L11 0 (fx1_putPlace (L11 0) 2 x3))) H := hP
                  have hD : va_D A (lsW cI cB cS aL (va_up L11 0 (fx1_putPlace (L11 0) 2 x3))) := hD
                  obtain ⟨L12, hR, hP, hD⟩ := kgen (P := fun X9 => va_P D vwCl (lsW cI cB cS aL X9) H ∧ va_D A (lsW cI cB cS aL X9)) hR ⟨hP, hD⟩
                  refine lv_aload_n hx hb dX3_setPlaces_142 rfl (lv_at hl 2 rfl) ?_
                  refine va_get (D := D) (ci := 3) (v := .ref (aL 0 0)) (C := RX3) (T := TX3) (N := 5) hx hb hts hinX3 hown hK hP 0 rfl rfl 0 (by decide) q5 (fun _ h9 => h9) rfl dX3_setPlaces_143 ?_
                  refine lv_iconst (v := 3) hx hb dX3_setPlaces_146 (by decide) ?_
                  refine lv_iload hx hb dX3_setPlaces_147 (lv_at hl 6 rfl) ?_
                  refine kcV (ci := 1) (q0 := 0) (As := [.int 3, .int x4]) (rest := []) E.1 (cx1_putPlace E (aL 0) (L12 0) 3 x4) hX (cwV 2 hts gX3_setPlaces_X1_putPlace rfl rfl rfl hdX1_putPlace ⟨Nat.le_of_ble_eq_true rfl, Nat.le_of_ble_eq_true rfl⟩) hKs hK hP hD hS hA _ _ (ls_st0 cI cB cS aL L12) (ls_st0' cI cB cS aL L12 _) rfl rfl rfl rfl hl.1 (Nat.le_of_ble_eq_true rfl) dX3_setPlaces_149 ⟨Nat.zero_le _, Nat.zero_le _⟩ (fun H locs hP hD hS => ?_)
                  have hP : va_P D vwCl (lsW cI cB cS aL (va_up L12 0 (fx1_putPlace (L12 0) 3 x4))) H := hP
                  have hD : va_D A (lsW cI cB cS aL (va_up L12 0 (fx1_putPlace (L12 0) 3 x4))) := hD
                  obtain ⟨L13, hR, hP, hD⟩ := kgen (P := fun X9 => va_P D vwCl (lsW cI cB cS aL X9) H ∧ va_D A (lsW cI cB cS aL X9)) hR ⟨hP, hD⟩
                  refine lv_aload_n hx hb dX3_setPlaces_152 rfl (lv_at hl 2 rfl) ?_
                  refine va_get (D := D) (ci := 3) (v := .ref (aL 0 0)) (C := RX3) (T := TX3) (N := 5) hx hb hts hinX3 hown hK hP 0 rfl rfl 0 (by decide) q5 (fun _ h9 => h9) rfl dX3_setPlaces_153 ?_
                  refine lv_iconst (v := 4) hx hb dX3_setPlaces_156 (by decide) ?_
                  refine lv_iload hx hb dX3_setPlaces_157 (lv_at hl 7 rfl) ?_
                  refine kcV (ci := 1) (q0 := 0) (As := [.int 4, .int x5]) (rest := []) E.1 (cx1_putPlace E (aL 0) (L13 0) 4 x5) hX (cwV 2 hts gX3_setPlaces_X1_putPlace rfl rfl rfl hdX1_putPlace ⟨Nat.le_of_ble_eq_true rfl, Nat.le_of_ble_eq_true rfl⟩) hKs hK hP hD hS hA _ _ (ls_st0 cI cB cS aL L13) (ls_st0' cI cB cS aL L13 _) rfl rfl rfl rfl hl.1 (Nat.le_of_ble_eq_true rfl) dX3_setPlaces_159 ⟨Nat.zero_le _, Nat.zero_le _⟩ (fun H locs hP hD hS => ?_)
                  have hP : va_P D vwCl (lsW cI cB cS aL (va_up L13 0 (fx1_putPlace (L13 0) 4 x5))) H := hP
                  have hD : va_D A (lsW cI cB cS aL (va_up L13 0 (fx1_putPlace (L13 0) 4 x5))) := hD
                  obtain ⟨L14, hR, hP, hD⟩ := kgen (P := fun X9 => va_P D vwCl (lsW cI cB cS aL X9) H ∧ va_D A (lsW cI cB cS aL X9)) hR ⟨hP, hD⟩
                  refine lv_iload hx hb dX3_setPlaces_162 (lv_at hl 0 rfl) ?_
                  subst hR
                  exact krX hx hb hr hlk hP hD hS dX3_setPlaces_164 rfl rfl rfl
                · rw [if_neg c8] at hR hF
                  obtain ⟨sa, hsa⟩ := (EX.2 s hKs).1.2.1
                  exact (by subst hR; exact kthrow hx hb hfl hown kXfit2 q3 q4 hsa (vx_hat (fun w h => hts w (List.mem_cons_of_mem _ (List.mem_append_right _ h))) (fun _ h => h) (fun w h => va_Nw.use (kXot2 w h) ((EX.2 s hKs).2.2.1 w h))) kXgood2 hSt hP hD hS (hl.1.trans hml.symm) dX3_setPlaces_84 dX3_setPlaces_87 dX3_setPlaces_88 dX3_setPlaces_90 dX3_setPlaces_93 htab (Nat.le_of_ble_eq_true rfl) (Nat.le_of_ble_eq_true rfl) hlk kec2 kXe2)
            · rw [if_neg c6] at hR hF
              obtain ⟨sa, hsa⟩ := (EX.2 s hKs).1.1
              exact (by subst hR; exact kthrow hx hb hfl hown kXfit1 q1 q2 hsa (vx_hat (fun w h => hts w (List.mem_cons_of_mem _ (List.mem_append_left _ (List.mem_append_right _ h)))) (fun _ h => h) (fun w h => va_Nw.use (kXot1 w h) ((EX.2 s hKs).2.1 w h))) kXgood1 hSt hP hD hS (hl.1.trans hml.symm) dX3_setPlaces_48 dX3_setPlaces_51 dX3_setPlaces_52 dX3_setPlaces_54 dX3_setPlaces_57 htab (Nat.le_of_ble_eq_true rfl) (Nat.le_of_ble_eq_true rfl) hlk kec1 kXe1)

theorem hdX3_set : yX3_set.cls = RX3 ∧ yX3_set.cls ≠ "java/lang/invoke/MethodHandle" ∧ yX3_set.cls ≠ "java/lang/invoke/VarHandle" ∧ (parseMethodDescriptor yX3_set.desc).map (fun d => d.parameters.length) = some 2 := by decide +kernel
def fx3_set (L : (Nat → St)) (x1 : Int32) (x2 : Int32) : Int32 × Int32 × ((Nat → St)) := (if x1 < 0 then (1, 0, L) else (if x1 ≤ 6 then (if x2 < (fx3_least x1) then (1, 0, L) else (if x2 ≤ (fx3_most x1) then (bnd (fxh_save L) (fun L5 => (bnd (va_up L5 0 (fx1_putSetting (L5 0) x1 x2)) (fun L6 => (0, fx1_setting (L5 0) x1, L6))))) else (1, 0, L))) else (1, 0, L)))
def sx3_set (L : (Nat → St)) (x1 : Int32) (x2 : Int32) : Prop := (if x1 < 0 then True else (if x1 ≤ 6 then (if x2 < (fx3_least x1) then True else (if x2 ≤ (fx3_most x1) then sxh_save L else True)) else True))
set_option maxHeartbeats 4000000 in
set_option maxRecDepth 100000 in
theorem cx3_set {l : Launch} {D : va_G} {cI cB cS cJ : ClassId} {K : State → Prop} (EX : kEX D cI cB cS cJ K) (hfl : l.stackTraces = false) (aL : Nat → Nat → Nat) (L : (Nat → St)) (x1 : Int32) (x2 : Int32) (hF : sx3_set L x1 x2) : kX l D K yX3_set wsX3_set 6 165 [.ref (aL 7 0), .int x1, .int x2] (lsW cI cB cS aL L) ((fx3_set L x1 x2).1) ((fx3_set L x1 x2).2.1) (lsW cI cB cS aL ((fx3_set L x1 x2).2.2)) := by
  have E := EX.1
  refine kX_of (own := RX3) (cc := cX3_set) (maxL := 4) (tys := kty cI cB cS cJ) (fun U h => (E.2 U h).1) (by decide) rfl rfl (Nat.le_of_ble_eq_true rfl) ?_
  intro p e s m below meth c A ls hx hb hr hml hts hown hlk hKs hK hP hD hA hS hl hSt htab
  have hl : lv_has ls 4 [(0, .ref (aL 7 0)), (1, .int x1), (2, .int x2)] := hl
  have hX : CallFix p m c cX3_set 4 s _ wsX3_set RX3 := ⟨hx, hb, hml, hown, hts⟩
  have hinX3 : ∀ w ∈ wsX30, w ∈ wsX3_set := fun w h => List.mem_cons_of_mem _ (List.mem_append_left _ (List.mem_append_left _ (List.mem_append_left _ (List.mem_append_left _ (List.mem_append_right _ h)))))
  have q1 := hts (.classLink RX3 34 "java/lang/IllegalArgumentException") (List.mem_of_getElem? (i := 1) rfl)
  have q2 := hts (.initialized "java/lang/IllegalArgumentException") (List.mem_of_getElem? (i := 2) rfl)
  have q3 := hts (.fieldLink RX3 22 "LabelStation" "history" "LLabelStation$History;") (List.mem_of_getElem? (i := 3) rfl)
  have q4 := hts (.fieldLink RX3 10 "LabelStation" "state" "LLabelStation$State;") (List.mem_of_getElem? (i := 4) rfl)
  generalize hR : fx3_set L x1 x2 = R
  rw [fx3_set] at hR
  rw [sx3_set] at hF
  refine lv_iload_n hx hb dX3_set_0 rfl (lv_at hl 1 rfl) ?_
  refine lv_if_lt (tgt := 10) hx hb dX3_set_1 (by decide) (fun c1 => ?_) (fun c1 => ?_)
  · rw [if_pos c1] at hR hF
    obtain ⟨sa, hsa⟩ := (EX.2 s hKs).1.2.2.1
    exact (by subst hR; exact kthrow hx hb hfl hown kXfit1 q1 q2 hsa (vx_hat (fun w h => hts w (List.mem_cons_of_mem _ (List.mem_append_right _ h))) (fun _ h => h) (fun w h => va_Nw.use (kXot1 w h) ((EX.2 s hKs).2.1 w h))) kXgood1 hSt hP hD hS (hl.1.trans hml.symm) dX3_set_10 dX3_set_13 dX3_set_14 dX3_set_16 dX3_set_19 htab (Nat.le_of_ble_eq_true rfl) (Nat.le_of_ble_eq_true rfl) hlk kec1 kXe1)
  · rw [if_neg c1] at hR hF
    refine lv_iload_n hx hb dX3_set_4 rfl (lv_at hl 1 rfl) ?_
    refine lv_bipush (v := 6) hx hb dX3_set_5 (by decide) ?_
    refine lv_icmp_le (tgt := 20) hx hb dX3_set_7 (by decide) (fun c2 => ?_) (fun c2 => ?_)
    · rw [if_pos c2] at hR hF
      refine lv_iload_n hx hb dX3_set_20 rfl (lv_at hl 2 rfl) ?_
      refine lv_iload_n hx hb dX3_set_21 rfl (lv_at hl 1 rfl) ?_
      refine kcsG (As := [.int x1]) (rest := [.int x2]) E.1 (cx3_least E x1) hX (va_cwS 1 hts gX3_set_X3_least rfl rfl rfl hdX3_least.2 ⟨Nat.le_of_ble_eq_true rfl, Nat.le_of_ble_eq_true rfl⟩) hKs hP hD hS hA hSt _ _ (kw_nil _) (kw_nil _).symm rfl rfl hl.1 (Nat.le_of_ble_eq_true rfl) dX3_set_22 ⟨Nat.zero_le _, Nat.zero_le _⟩ (fun H locs hP hD hS => ?_)
      refine lv_icmp_lt (tgt := 36) hx hb dX3_set_25 (by decide) (fun c3 => ?_) (fun c3 => ?_)
      · rw [if_pos c3] at hR hF
        obtain ⟨sa, hsa⟩ := (EX.2 s hKs).1.2.2.2.1
        exact (by subst hR; exact kthrow hx hb hfl hown kXfit1 q1 q2 hsa (vx_hat (fun w h => hts w (List.mem_cons_of_mem _ (List.mem_append_right _ h))) (fun _ h => h) (fun w h => va_Nw.use (kXot1 w h) ((EX.2 s hKs).2.1 w h))) kXgood1 hSt hP hD hS (hl.1.trans hml.symm) dX3_set_36 dX3_set_39 dX3_set_40 dX3_set_42 dX3_set_45 htab (Nat.le_of_ble_eq_true rfl) (Nat.le_of_ble_eq_true rfl) hlk kec1 kXe1)
      · rw [if_neg c3] at hR hF
        refine lv_iload_n hx hb dX3_set_28 rfl (lv_at hl 2 rfl) ?_
        refine lv_iload_n hx hb dX3_set_29 rfl (lv_at hl 1 rfl) ?_
        refine kcsG (As := [.int x1]) (rest := [.int x2]) E.1 (cx3_most E x1) hX (va_cwS 1 hts gX3_set_X3_most rfl rfl rfl hdX3_most.2 ⟨Nat.le_of_ble_eq_true rfl, Nat.le_of_ble_eq_true rfl⟩) hKs hP hD hS hA hSt _ _ (kw_nil _) (kw_nil _).symm rfl rfl hl.1 (Nat.le_of_ble_eq_true rfl) dX3_set_30 ⟨Nat.zero_le _, Nat.zero_le _⟩ (fun H locs hP hD hS => ?_)
        refine lv_icmp_le (tgt := 46) hx hb dX3_set_33 (by decide) (fun c4 => ?_) (fun c4 => ?_)
        · rw [if_pos c4] at hR hF
          refine lv_aload_n hx hb dX3_set_46 rfl (lv_at hl 0 rfl) ?_
          refine va_get (D := D) (ci := 3) (v := .ref (aL 7 1)) (C := RX3) (T := TX3) (N := 5) hx hb hts hinX3 hown hK hP 0 rfl rfl 2 (by decide) q3 (fun _ h9 => h9) rfl dX3_set_47 ?_
          refine lv_aload_n hx hb dX3_set_50 rfl (lv_at hl 0 rfl) ?_
          refine va_get (D := D) (ci := 3) (v := .ref (aL 0 0)) (C := RX3) (T := TX3) (N := 5) hx hb hts hinX3 hown hK hP 0 rfl rfl 0 (by decide) q4 (fun _ h9 => h9) rfl dX3_set_51 ?_
          have hs7 := hF
          refine kcV (ci := 0) (q0 := 14) (As := [.ref (aL 0 0)]) (rest := []) E.1 (cx0_save E aL L (hjn L) (hix_lt hs7.1) (hix_at hs7.1) hs7.2) hX (cwV 1 hts gX3_set_X0_save rfl rfl rfl hdX0_save ⟨Nat.le_of_ble_eq_true rfl, Nat.le_of_ble_eq_true rfl⟩) hKs hK hP hD hS hA _ _ (ls_hs cI cB cS aL L) (lsh_save cI cB cS aL L hs7.1) rfl rfl rfl rfl hl.1 (Nat.le_of_ble_eq_true rfl) dX3_set_54 ⟨Nat.zero_le _, Nat.zero_le _⟩ (fun H locs hP hD hS => ?_)
          have hP : va_P D vwCl (lsW cI cB cS aL (fxh_save L)) H := hP
          have hD : va_D A (lsW cI cB cS aL (fxh_save L)) := hD
          obtain ⟨L5, hR, hP, hD⟩ := kgen (P := fun X9 => va_P D vwCl (lsW cI cB cS aL X9) H ∧ va_D A (lsW cI cB cS aL X9)) hR ⟨hP, hD⟩
          refine lv_aload_n hx hb dX3_set_57 rfl (lv_at hl 0 rfl) ?_
          refine va_get (D := D) (ci := 3) (v := .ref (aL 0 0)) (C := RX3) (T := TX3) (N := 5) hx hb hts hinX3 hown hK hP 0 rfl rfl 0 (by decide) q4 (fun _ h9 => h9) rfl dX3_set_58 ?_
          refine lv_iload_n hx hb dX3_set_61 rfl (lv_at hl 1 rfl) ?_
          refine kcI (ci := 1) (q0 := 0) (As := [.int x1]) (rest := []) E.1 (cx1_setting E (aL 0) (L5 0) x1) hX (cwV 1 hts gX3_set_X1_setting rfl rfl rfl hdX1_setting ⟨Nat.le_of_ble_eq_true rfl, Nat.le_of_ble_eq_true rfl⟩) hKs hK hP hD hS hA _ _ (ls_st0 cI cB cS aL L5) (ls_st0 cI cB cS aL L5).symm rfl rfl rfl rfl hl.1 (Nat.le_of_ble_eq_true rfl) dX3_set_62 ⟨Nat.zero_le _, Nat.zero_le _⟩ (fun H locs hP hD hS => ?_)
          refine lv_istore_n (lv' := [(3, .int (fx1_setting (L5 0) x1)), (0, .ref (aL 7 0)), (1, .int x1), (2, .int x2)]) hx hb dX3_set_65 rfl hl (by decide) rfl (fun ls hl => ?_)
          refine lv_aload_n hx hb dX3_set_66 rfl (lv_at hl 1 rfl) ?_
          refine va_get (D := D) (ci := 3) (v := .ref (aL 0 0)) (C := RX3) (T := TX3) (N := 5) hx hb hts hinX3 hown hK hP 0 rfl rfl 0 (by decide) q4 (fun _ h9 => h9) rfl dX3_set_67 ?_
          refine lv_iload_n hx hb dX3_set_70 rfl (lv_at hl 2 rfl) ?_
          refine lv_iload_n hx hb dX3_set_71 rfl (lv_at hl 3 rfl) ?_
          refine kcV (ci := 1) (q0 := 0) (As := [.int x1, .int x2]) (rest := []) E.1 (cx1_putSetting E (aL 0) (L5 0) x1 x2) hX (cwV 2 hts gX3_set_X1_putSetting rfl rfl rfl hdX1_putSetting ⟨Nat.le_of_ble_eq_true rfl, Nat.le_of_ble_eq_true rfl⟩) hKs hK hP hD hS hA _ _ (ls_st0 cI cB cS aL L5) (ls_st0' cI cB cS aL L5 _) rfl rfl rfl rfl hl.1 (Nat.le_of_ble_eq_true rfl) dX3_set_72 ⟨Nat.zero_le _, Nat.zero_le _⟩ (fun H locs hP hD hS => ?_)
          have hP : va_P D vwCl (lsW cI cB cS aL (va_up L5 0 (fx1_putSetting (L5 0) x1 x2))) H := hP
          have hD : va_D A (lsW cI cB cS aL (va_up L5 0 (fx1_putSetting (L5 0) x1 x2))) := hD
          obtain ⟨L6, hR, hP, hD⟩ := kgen (P := fun X9 => va_P D vwCl (lsW cI cB cS aL X9) H ∧ va_D A (lsW cI cB cS aL X9)) hR ⟨hP, hD⟩
          refine lv_iload_n hx hb dX3_set_75 rfl (lv_at hl 0 rfl) ?_
          subst hR
          exact krX hx hb hr hlk hP hD hS dX3_set_76 rfl rfl rfl
        · rw [if_neg c4] at hR hF
          obtain ⟨sa, hsa⟩ := (EX.2 s hKs).1.2.2.2.1
          exact (by subst hR; exact kthrow hx hb hfl hown kXfit1 q1 q2 hsa (vx_hat (fun w h => hts w (List.mem_cons_of_mem _ (List.mem_append_right _ h))) (fun _ h => h) (fun w h => va_Nw.use (kXot1 w h) ((EX.2 s hKs).2.1 w h))) kXgood1 hSt hP hD hS (hl.1.trans hml.symm) dX3_set_36 dX3_set_39 dX3_set_40 dX3_set_42 dX3_set_45 htab (Nat.le_of_ble_eq_true rfl) (Nat.le_of_ble_eq_true rfl) hlk kec1 kXe1)
    · rw [if_neg c2] at hR hF
      obtain ⟨sa, hsa⟩ := (EX.2 s hKs).1.2.2.1
      exact (by subst hR; exact kthrow hx hb hfl hown kXfit1 q1 q2 hsa (vx_hat (fun w h => hts w (List.mem_cons_of_mem _ (List.mem_append_right _ h))) (fun _ h => h) (fun w h => va_Nw.use (kXot1 w h) ((EX.2 s hKs).2.1 w h))) kXgood1 hSt hP hD hS (hl.1.trans hml.symm) dX3_set_10 dX3_set_13 dX3_set_14 dX3_set_16 dX3_set_19 htab (Nat.le_of_ble_eq_true rfl) (Nat.le_of_ble_eq_true rfl) hlk kec1 kXe1)

theorem hdX3_value : yX3_value.cls = RX3 ∧ yX3_value.cls ≠ "java/lang/invoke/MethodHandle" ∧ yX3_value.cls ≠ "java/lang/invoke/VarHandle" ∧ (parseMethodDescriptor yX3_value.desc).map (fun d => d.parameters.length) = some 1 := by decide +kernel
def fx3_value (L : (Nat → St)) (x1 : Int32) : Int32 × Int32 := (if x1 < 0 then (1, 0) else (if x1 ≤ 12 then (bnd (fx1_valueOf (L 0) x1) (fun v3 => (0, v3))) else (1, 0)))
set_option maxHeartbeats 4000000 in
set_option maxRecDepth 100000 in
theorem cx3_value {l : Launch} {D : va_G} {cI cB cS cJ : ClassId} {K : State → Prop} (EX : kEX D cI cB cS cJ K) (hfl : l.stackTraces = false) (aL : Nat → Nat → Nat) (L : (Nat → St)) (x1 : Int32) : kX l D K yX3_value wsX3_value 6 82 [.ref (aL 7 0), .int x1] (lsW cI cB cS aL L) ((fx3_value L x1).1) ((fx3_value L x1).2) (lsW cI cB cS aL L) := by
  have E := EX.1
  refine kX_of (own := RX3) (cc := cX3_value) (maxL := 2) (tys := kty cI cB cS cJ) (fun U h => (E.2 U h).1) (by decide) rfl rfl (Nat.le_of_ble_eq_true rfl) ?_
  intro p e s m below meth c A ls hx hb hr hml hts hown hlk hKs hK hP hD hA hS hl hSt htab
  have hl : lv_has ls 2 [(0, .ref (aL 7 0)), (1, .int x1)] := hl
  have hX : CallFix p m c cX3_value 2 s _ wsX3_value RX3 := ⟨hx, hb, hml, hown, hts⟩
  have hinX3 : ∀ w ∈ wsX30, w ∈ wsX3_value := fun w h => List.mem_cons_of_mem _ (List.mem_append_left _ (List.mem_append_left _ (List.mem_append_right _ h)))
  have q1 := hts (.classLink RX3 34 "java/lang/IllegalArgumentException") (List.mem_of_getElem? (i := 1) rfl)
  have q2 := hts (.initialized "java/lang/IllegalArgumentException") (List.mem_of_getElem? (i := 2) rfl)
  have q3 := hts (.fieldLink RX3 10 "LabelStation" "state" "LLabelStation$State;") (List.mem_of_getElem? (i := 3) rfl)
  generalize hR : fx3_value L x1 = R
  rw [fx3_value] at hR
  refine lv_iload_n hx hb dX3_value_0 rfl (lv_at hl 1 rfl) ?_
  refine lv_if_lt (tgt := 10) hx hb dX3_value_1 (by decide) (fun c1 => ?_) (fun c1 => ?_)
  · rw [if_pos c1] at hR
    obtain ⟨sa, hsa⟩ := (EX.2 s hKs).1.2.2.2.2.1
    exact (by subst hR; exact kthrow hx hb hfl hown kXfit1 q1 q2 hsa (vx_hat (fun w h => hts w (List.mem_cons_of_mem _ (List.mem_append_right _ h))) (fun _ h => h) (fun w h => va_Nw.use (kXot1 w h) ((EX.2 s hKs).2.1 w h))) kXgood1 hSt hP hD hS (hl.1.trans hml.symm) dX3_value_10 dX3_value_13 dX3_value_14 dX3_value_16 dX3_value_19 htab (Nat.le_of_ble_eq_true rfl) (Nat.le_of_ble_eq_true rfl) hlk kec1 kXe1)
  · rw [if_neg c1] at hR
    refine lv_iload_n hx hb dX3_value_4 rfl (lv_at hl 1 rfl) ?_
    refine lv_bipush (v := 12) hx hb dX3_value_5 (by decide) ?_
    refine lv_icmp_le (tgt := 20) hx hb dX3_value_7 (by decide) (fun c2 => ?_) (fun c2 => ?_)
    · rw [if_pos c2] at hR
      refine lv_aload_n hx hb dX3_value_20 rfl (lv_at hl 0 rfl) ?_
      refine va_get (D := D) (ci := 3) (v := .ref (aL 0 0)) (C := RX3) (T := TX3) (N := 5) hx hb hts hinX3 hown hK hP 0 rfl rfl 0 (by decide) q3 (fun _ h9 => h9) rfl dX3_value_21 ?_
      refine lv_iload_n hx hb dX3_value_24 rfl (lv_at hl 1 rfl) ?_
      refine kcI (ci := 1) (q0 := 0) (As := [.int x1]) (rest := []) E.1 (cx1_valueOf E (aL 0) (L 0) x1) hX (cwV 1 hts gX3_value_X1_valueOf rfl rfl rfl hdX1_valueOf ⟨Nat.le_of_ble_eq_true rfl, Nat.le_of_ble_eq_true rfl⟩) hKs hK hP hD hS hA _ _ (ls_st0 cI cB cS aL L) (ls_st0 cI cB cS aL L).symm rfl rfl rfl rfl hl.1 (Nat.le_of_ble_eq_true rfl) dX3_value_25 ⟨Nat.zero_le _, Nat.zero_le _⟩ (fun H locs hP hD hS => ?_)
      generalize ev3 : fx1_valueOf (L 0) x1 = v3 at hR ⊢
      replace hR := bnd_e hR
      subst hR
      exact krX hx hb hr hlk hP hD hS dX3_value_28 rfl rfl rfl
    · rw [if_neg c2] at hR
      obtain ⟨sa, hsa⟩ := (EX.2 s hKs).1.2.2.2.2.1
      exact (by subst hR; exact kthrow hx hb hfl hown kXfit1 q1 q2 hsa (vx_hat (fun w h => hts w (List.mem_cons_of_mem _ (List.mem_append_right _ h))) (fun _ h => h) (fun w h => va_Nw.use (kXot1 w h) ((EX.2 s hKs).2.1 w h))) kXgood1 hSt hP hD hS (hl.1.trans hml.symm) dX3_value_10 dX3_value_13 dX3_value_14 dX3_value_16 dX3_value_19 htab (Nat.le_of_ble_eq_true rfl) (Nat.le_of_ble_eq_true rfl) hlk kec1 kXe1)

theorem hdX3_jam : yX3_jam.cls = RX3 ∧ yX3_jam.cls ≠ "java/lang/invoke/MethodHandle" ∧ yX3_jam.cls ≠ "java/lang/invoke/VarHandle" ∧ (parseMethodDescriptor yX3_jam.desc).map (fun d => d.parameters.length) = some 1 := by decide +kernel
def fx3_jam (L : (Nat → St)) (x1 : Int32) : Int32 × ((Nat → St)) := (bnd (fxh_save L) (fun L1 => (bnd (va_up L1 0 (sset (L1 0) 3 3 x1)) (fun L3 => ((L1 0) 3 3, L3)))))
def sx3_jam (L : (Nat → St)) (x1 : Int32) : Prop := (sxh_save L ∧ (bnd (fxh_save L) (fun L1 => (kbo (x1) ∧ (bnd (va_up L1 0 (sset (L1 0) 3 3 x1)) (fun L3 => kbo ((L1 0) 3 3)))))))
set_option maxHeartbeats 4000000 in
set_option maxRecDepth 100000 in
theorem cx3_jam {l : Launch} {D : va_G} {cI cB cS cJ : ClassId} {K : State → Prop} (EX : kEX D cI cB cS cJ K) (aL : Nat → Nat → Nat) (L : (Nat → St)) (x1 : Int32) (hF : sx3_jam L x1) : kI l D K yX3_jam wsX3_jam 5 165 [.ref (aL 7 0), .int x1] (lsW cI cB cS aL L) (fx3_jam L x1).1 (lsW cI cB cS aL ((fx3_jam L x1).2)) := by
  have E := EX.1
  refine kI_of (own := RX3) (cc := cX3_jam) (maxL := 3) (tys := kty cI cB cS cJ) (fun U h => (E.2 U h).1) (by decide) rfl rfl (Nat.le_of_ble_eq_true rfl) ?_
  intro p e s m below meth c A ls hx hb hr hml hts hown hlk hKs hK hP hD hA hS hl
  have hl : lv_has ls 3 [(0, .ref (aL 7 0)), (1, .int x1)] := hl
  have hX : CallFix p m c cX3_jam 3 s _ wsX3_jam RX3 := ⟨hx, hb, hml, hown, hts⟩
  have hinX1 : ∀ w ∈ wsX10, w ∈ wsX3_jam := fun w h => List.mem_cons_of_mem _ (List.mem_append_left _ (List.mem_append_left _ (List.mem_append_right _ h)))
  have hinX3 : ∀ w ∈ wsX30, w ∈ wsX3_jam := fun w h => List.mem_cons_of_mem _ (List.mem_append_left _ (List.mem_append_left _ (List.mem_append_left _ (List.mem_append_right _ h))))
  have q1 := hts (.fieldLink RX3 22 "LabelStation" "history" "LLabelStation$History;") (List.mem_of_getElem? (i := 1) rfl)
  have q2 := hts (.fieldLink RX3 10 "LabelStation" "state" "LLabelStation$State;") (List.mem_of_getElem? (i := 2) rfl)
  generalize hR : fx3_jam L x1 = R
  rw [fx3_jam] at hR
  rw [sx3_jam] at hF
  refine lv_aload_n hx hb dX3_jam_0 rfl (lv_at hl 0 rfl) ?_
  refine va_get (D := D) (ci := 3) (v := .ref (aL 7 1)) (C := RX3) (T := TX3) (N := 5) hx hb hts hinX3 hown hK hP 0 rfl rfl 2 (by decide) q1 (fun _ h9 => h9) rfl dX3_jam_1 ?_
  refine lv_aload_n hx hb dX3_jam_4 rfl (lv_at hl 0 rfl) ?_
  refine va_get (D := D) (ci := 3) (v := .ref (aL 0 0)) (C := RX3) (T := TX3) (N := 5) hx hb hts hinX3 hown hK hP 0 rfl rfl 0 (by decide) q2 (fun _ h9 => h9) rfl dX3_jam_5 ?_
  obtain ⟨hs5, hF⟩ := hF
  refine kcV (ci := 0) (q0 := 14) (As := [.ref (aL 0 0)]) (rest := []) E.1 (cx0_save E aL L (hjn L) (hix_lt hs5.1) (hix_at hs5.1) hs5.2) hX (cwV 1 hts gX3_jam_X0_save rfl rfl rfl hdX0_save ⟨Nat.le_of_ble_eq_true rfl, Nat.le_of_ble_eq_true rfl⟩) hKs hK hP hD hS hA _ _ (ls_hs cI cB cS aL L) (lsh_save cI cB cS aL L hs5.1) rfl rfl rfl rfl hl.1 (Nat.le_of_ble_eq_true rfl) dX3_jam_8 ⟨Nat.zero_le _, Nat.zero_le _⟩ (fun H locs hP hD hS => ?_)
  have hP : va_P D vwCl (lsW cI cB cS aL (fxh_save L)) H := hP
  have hD : va_D A (lsW cI cB cS aL (fxh_save L)) := hD
  obtain ⟨L1, hR, hF, hP, hD⟩ := kgenF (P := fun X9 => va_P D vwCl (lsW cI cB cS aL X9) H ∧ va_D A (lsW cI cB cS aL X9)) hR hF ⟨hP, hD⟩
  refine lv_aload_n hx hb dX3_jam_11 rfl (lv_at hl 0 rfl) ?_
  refine va_get (D := D) (ci := 3) (v := .ref (aL 0 0)) (C := RX3) (T := TX3) (N := 5) hx hb hts hinX3 hown hK hP 0 rfl rfl 0 (by decide) q2 (fun _ h9 => h9) rfl dX3_jam_12 ?_
  refine va_getN (D := D) (ci := 1) (v := .int ((L1 0) 3 3)) (C := RX1) (T := TX1) (N := 16) hx hb hts hinX1 hown hK hP 15 rfl rfl 11 (by decide) (va_Nw.use rfl ((E.2 s hKs).2.2.2.1)) (fun _ h9 => h9) rfl dX3_jam_15 ?_
  refine lv_istore_n (lv' := [(2, .int ((L1 0) 3 3)), (0, .ref (aL 7 0)), (1, .int x1)]) hx hb dX3_jam_18 rfl hl (by decide) rfl (fun ls hl => ?_)
  refine lv_aload_n hx hb dX3_jam_19 rfl (lv_at hl 1 rfl) ?_
  refine va_get (D := D) (ci := 3) (v := .ref (aL 0 0)) (C := RX3) (T := TX3) (N := 5) hx hb hts hinX3 hown hK hP 0 rfl rfl 0 (by decide) q2 (fun _ h9 => h9) rfl dX3_jam_20 ?_
  refine lv_iload_n hx hb dX3_jam_23 rfl (lv_at hl 2 rfl) ?_
  obtain ⟨hz2, hF⟩ := hF
  refine va_putN (D := D) (ci := 1) (v := .int x1) (ty := .boolean) (C := RX1) (T := TX1) (N := 16) hx hb hts hinX1 tyX1 tyX1_ok nmX1 hown hK hP hD hS 15 rfl rfl 11 (by decide) (va_Nw.use rfl ((E.2 s hKs).2.2.2.1)) (fun _ h9 => h9) rfl (by decide +kernel) (kbo_n hz2) (kbo_f hz2) (Nat.le_of_ble_eq_true rfl) dX3_jam_24 (fun H locs hP hD hS => ?_)
  have hP : va_P D vwCl (lsW cI cB cS aL (va_up L1 0 (sset (L1 0) 3 3 x1))) H := hP
  have hD : va_D A (lsW cI cB cS aL (va_up L1 0 (sset (L1 0) 3 3 x1))) := hD
  obtain ⟨L3, hR, hF, hP, hD⟩ := kgenF (P := fun X9 => va_P D vwCl (lsW cI cB cS aL X9) H ∧ va_D A (lsW cI cB cS aL X9)) hR hF ⟨hP, hD⟩
  refine lv_iload_n hx hb dX3_jam_27 rfl (lv_at hl 0 rfl) ?_
  subst hR
  exact krZ hx hb hr hlk hP hD hS dX3_jam_28 (kbo_n hF) rfl rfl

theorem hdX3_start : yX3_start.cls = RX3 ∧ yX3_start.cls ≠ "java/lang/invoke/MethodHandle" ∧ yX3_start.cls ≠ "java/lang/invoke/VarHandle" ∧ (parseMethodDescriptor yX3_start.desc).map (fun d => d.parameters.length) = some 0 := by decide +kernel
def fx3_start (L : (Nat → St)) : Int32 × Int32 × ((Nat → St)) := (if ((L 0) 3 1) = 0 then (if ((L 0) 3 2) = 0 then (bnd (fxh_save L) (fun L3 => (bnd (va_up L3 0 (sset (L3 0) 3 1 1)) (fun L4 => (0, fx2_count 4 20 80 (stT (L4 0) 0), L4))))) else (2, 0, L)) else (2, 0, L))
def sx3_start (L : (Nat → St)) : Prop := (if ((L 0) 3 1) = 0 then (if ((L 0) 3 2) = 0 then sxh_save L else True) else True)
set_option maxHeartbeats 4000000 in
set_option maxRecDepth 100000 in
theorem cx3_start {l : Launch} {D : va_G} {cI cB cS cJ : ClassId} {K : State → Prop} (EX : kEX D cI cB cS cJ K) (hfl : l.stackTraces = false) (aL : Nat → Nat → Nat) (L : (Nat → St)) (hF : sx3_start L) : kX l D K yX3_start wsX3_start 6 165 [.ref (aL 7 0)] (lsW cI cB cS aL L) ((fx3_start L).1) ((fx3_start L).2.1) (lsW cI cB cS aL ((fx3_start L).2.2)) := by
  have E := EX.1
  refine kX_of (own := RX3) (cc := cX3_start) (maxL := 1) (tys := kty cI cB cS cJ) (fun U h => (E.2 U h).1) (by decide) rfl rfl (Nat.le_of_ble_eq_true rfl) ?_
  intro p e s m below meth c A ls hx hb hr hml hts hown hlk hKs hK hP hD hA hS hl hSt htab
  have hl : lv_has ls 1 [(0, .ref (aL 7 0))] := hl
  have hX : CallFix p m c cX3_start 1 s _ wsX3_start RX3 := ⟨hx, hb, hml, hown, hts⟩
  have hinX1 : ∀ w ∈ wsX10, w ∈ wsX3_start := fun w h => List.mem_cons_of_mem _ (List.mem_append_left _ (List.mem_append_left _ (List.mem_append_left _ (List.mem_append_right _ h))))
  have hinX3 : ∀ w ∈ wsX30, w ∈ wsX3_start := fun w h => List.mem_cons_of_mem _ (List.mem_append_left _ (List.mem_append_left _ (List.mem_append_left _ (List.mem_append_left _ (List.mem_append_right _ h)))))
  have q1 := hts (.classLink RX3 54 "java/lang/IllegalStateException") (List.mem_of_getElem? (i := 1) rfl)
  have q2 := hts (.initialized "java/lang/IllegalStateException") (List.mem_of_getElem? (i := 2) rfl)
  have q3 := hts (.fieldLink RX3 10 "LabelStation" "state" "LLabelStation$State;") (List.mem_of_getElem? (i := 3) rfl)
  have q4 := hts (.fieldLink RX3 22 "LabelStation" "history" "LLabelStation$History;") (List.mem_of_getElem? (i := 4) rfl)
  generalize hR : fx3_start L = R
  rw [fx3_start] at hR
  rw [sx3_start] at hF
  refine lv_aload_n hx hb dX3_start_0 rfl (lv_at hl 0 rfl) ?_
  refine va_get (D := D) (ci := 3) (v := .ref (aL 0 0)) (C := RX3) (T := TX3) (N := 5) hx hb hts hinX3 hown hK hP 0 rfl rfl 0 (by decide) q3 (fun _ h9 => h9) rfl dX3_start_1 ?_
  refine va_getN (D := D) (ci := 1) (v := .int ((L 0) 3 1)) (C := RX1) (T := TX1) (N := 16) hx hb hts hinX1 hown hK hP 15 rfl rfl 9 (by decide) (va_Nw.use rfl ((E.2 s hKs).2.2.2.2.1)) (fun _ h9 => h9) rfl dX3_start_4 ?_
  refine lv_if_ne (tgt := 20) hx hb dX3_start_7 (by decide) (fun c1 => ?_) (fun c1 => ?_)
  · rw [if_neg c1] at hR hF
    obtain ⟨sa, hsa⟩ := (EX.2 s hKs).1.2.2.2.2.2.1
    exact (by subst hR; exact kthrow hx hb hfl hown kXfit2 q1 q2 hsa (vx_hat (fun w h => hts w (List.mem_cons_of_mem _ (List.mem_append_right _ h))) (fun _ h => h) (fun w h => va_Nw.use (kXot2 w h) ((EX.2 s hKs).2.2.1 w h))) kXgood2 hSt hP hD hS (hl.1.trans hml.symm) dX3_start_20 dX3_start_23 dX3_start_24 dX3_start_26 dX3_start_29 htab (Nat.le_of_ble_eq_true rfl) (Nat.le_of_ble_eq_true rfl) hlk kec2 kXe2)
  · rw [if_pos c1] at hR hF
    refine lv_aload_n hx hb dX3_start_10 rfl (lv_at hl 0 rfl) ?_
    refine va_get (D := D) (ci := 3) (v := .ref (aL 0 0)) (C := RX3) (T := TX3) (N := 5) hx hb hts hinX3 hown hK hP 0 rfl rfl 0 (by decide) q3 (fun _ h9 => h9) rfl dX3_start_11 ?_
    refine va_getN (D := D) (ci := 1) (v := .int ((L 0) 3 2)) (C := RX1) (T := TX1) (N := 16) hx hb hts hinX1 hown hK hP 15 rfl rfl 10 (by decide) (va_Nw.use rfl ((E.2 s hKs).2.2.2.2.2.1)) (fun _ h9 => h9) rfl dX3_start_14 ?_
    refine lv_if_eq (tgt := 30) hx hb dX3_start_17 (by decide) (fun c2 => ?_) (fun c2 => ?_)
    · rw [if_pos c2] at hR hF
      refine lv_aload_n hx hb dX3_start_30 rfl (lv_at hl 0 rfl) ?_
      refine va_get (D := D) (ci := 3) (v := .ref (aL 7 1)) (C := RX3) (T := TX3) (N := 5) hx hb hts hinX3 hown hK hP 0 rfl rfl 2 (by decide) q4 (fun _ h9 => h9) rfl dX3_start_31 ?_
      refine lv_aload_n hx hb dX3_start_34 rfl (lv_at hl 0 rfl) ?_
      refine va_get (D := D) (ci := 3) (v := .ref (aL 0 0)) (C := RX3) (T := TX3) (N := 5) hx hb hts hinX3 hown hK hP 0 rfl rfl 0 (by decide) q3 (fun _ h9 => h9) rfl dX3_start_35 ?_
      have hs5 := hF
      refine kcV (ci := 0) (q0 := 14) (As := [.ref (aL 0 0)]) (rest := []) E.1 (cx0_save E aL L (hjn L) (hix_lt hs5.1) (hix_at hs5.1) hs5.2) hX (cwV 1 hts gX3_start_X0_save rfl rfl rfl hdX0_save ⟨Nat.le_of_ble_eq_true rfl, Nat.le_of_ble_eq_true rfl⟩) hKs hK hP hD hS hA _ _ (ls_hs cI cB cS aL L) (lsh_save cI cB cS aL L hs5.1) rfl rfl rfl rfl hl.1 (Nat.le_of_ble_eq_true rfl) dX3_start_38 ⟨Nat.zero_le _, Nat.zero_le _⟩ (fun H locs hP hD hS => ?_)
      have hP : va_P D vwCl (lsW cI cB cS aL (fxh_save L)) H := hP
      have hD : va_D A (lsW cI cB cS aL (fxh_save L)) := hD
      obtain ⟨L3, hR, hP, hD⟩ := kgen (P := fun X9 => va_P D vwCl (lsW cI cB cS aL X9) H ∧ va_D A (lsW cI cB cS aL X9)) hR ⟨hP, hD⟩
      refine lv_aload_n hx hb dX3_start_41 rfl (lv_at hl 0 rfl) ?_
      refine va_get (D := D) (ci := 3) (v := .ref (aL 0 0)) (C := RX3) (T := TX3) (N := 5) hx hb hts hinX3 hown hK hP 0 rfl rfl 0 (by decide) q3 (fun _ h9 => h9) rfl dX3_start_42 ?_
      refine lv_iconst (v := 1) hx hb dX3_start_45 (by decide) ?_
      refine va_putN (D := D) (ci := 1) (v := .int 1) (ty := .boolean) (C := RX1) (T := TX1) (N := 16) hx hb hts hinX1 tyX1 tyX1_ok nmX1 hown hK hP hD hS 15 rfl rfl 9 (by decide) (va_Nw.use rfl ((E.2 s hKs).2.2.2.2.1)) (fun _ h9 => h9) rfl (by decide +kernel) rfl rfl (Nat.le_of_ble_eq_true rfl) dX3_start_46 (fun H locs hP hD hS => ?_)
      have hP : va_P D vwCl (lsW cI cB cS aL (va_up L3 0 (sset (L3 0) 3 1 1))) H := hP
      have hD : va_D A (lsW cI cB cS aL (va_up L3 0 (sset (L3 0) 3 1 1))) := hD
      obtain ⟨L4, hR, hP, hD⟩ := kgen (P := fun X9 => va_P D vwCl (lsW cI cB cS aL X9) H ∧ va_D A (lsW cI cB cS aL X9)) hR ⟨hP, hD⟩
      refine lv_aload_n hx hb dX3_start_49 rfl (lv_at hl 0 rfl) ?_
      refine va_get (D := D) (ci := 3) (v := .ref (aL 0 0)) (C := RX3) (T := TX3) (N := 5) hx hb hts hinX3 hown hK hP 0 rfl rfl 0 (by decide) q3 (fun _ h9 => h9) rfl dX3_start_50 ?_
      refine va_getN (D := D) (ci := 1) (v := .ref (aL 0 4)) (C := RX1) (T := TX1) (N := 16) hx hb hts hinX1 hown hK hP 15 rfl rfl 3 (by decide) (va_Nw.use rfl ((E.2 s hKs).2.1)) (fun _ h9 => h9) rfl dX3_start_53 ?_
      refine kcI (ci := 2) (q0 := 0) (As := []) (rest := []) E.1 (cx2_count E (aL 0 4) (aL 0 5) 4 20 80 (by decide) (stT (L4 0) 0)) hX (cwV 0 hts gX3_start_X2_count rfl rfl rfl hdX2_count ⟨Nat.le_of_ble_eq_true rfl, Nat.le_of_ble_eq_true rfl⟩) hKs hK hP hD hS hA _ _ (ls_tb0 cI cB cS aL L4) (ls_tb0 cI cB cS aL L4).symm rfl rfl rfl rfl hl.1 (Nat.le_of_ble_eq_true rfl) dX3_start_56 ⟨Nat.zero_le _, Nat.zero_le _⟩ (fun H locs hP hD hS => ?_)
      subst hR
      exact krX hx hb hr hlk hP hD hS dX3_start_59 rfl rfl rfl
    · rw [if_neg c2] at hR hF
      obtain ⟨sa, hsa⟩ := (EX.2 s hKs).1.2.2.2.2.2.1
      exact (by subst hR; exact kthrow hx hb hfl hown kXfit2 q1 q2 hsa (vx_hat (fun w h => hts w (List.mem_cons_of_mem _ (List.mem_append_right _ h))) (fun _ h => h) (fun w h => va_Nw.use (kXot2 w h) ((EX.2 s hKs).2.2.1 w h))) kXgood2 hSt hP hD hS (hl.1.trans hml.symm) dX3_start_20 dX3_start_23 dX3_start_24 dX3_start_26 dX3_start_29 htab (Nat.le_of_ble_eq_true rfl) (Nat.le_of_ble_eq_true rfl) hlk kec2 kXe2)

theorem hdX3_stop : yX3_stop.cls = RX3 ∧ yX3_stop.cls ≠ "java/lang/invoke/MethodHandle" ∧ yX3_stop.cls ≠ "java/lang/invoke/VarHandle" ∧ (parseMethodDescriptor yX3_stop.desc).map (fun d => d.parameters.length) = some 0 := by decide +kernel
def fx3_stop (L : (Nat → St)) : Int32 × Int32 × ((Nat → St)) := (if ((L 0) 3 1) = 0 then (2, 0, L) else (bnd (fxh_save L) (fun L2 => (bnd (va_up L2 0 (sset (L2 0) 3 1 0)) (fun L3 => (0, fx2_count 4 20 80 (stT (L3 0) 0), L3))))))
def sx3_stop (L : (Nat → St)) : Prop := (if ((L 0) 3 1) = 0 then True else sxh_save L)
set_option maxHeartbeats 4000000 in
set_option maxRecDepth 100000 in
theorem cx3_stop {l : Launch} {D : va_G} {cI cB cS cJ : ClassId} {K : State → Prop} (EX : kEX D cI cB cS cJ K) (hfl : l.stackTraces = false) (aL : Nat → Nat → Nat) (L : (Nat → St)) (hF : sx3_stop L) : kX l D K yX3_stop wsX3_stop 6 165 [.ref (aL 7 0)] (lsW cI cB cS aL L) ((fx3_stop L).1) ((fx3_stop L).2.1) (lsW cI cB cS aL ((fx3_stop L).2.2)) := by
  have E := EX.1
  refine kX_of (own := RX3) (cc := cX3_stop) (maxL := 1) (tys := kty cI cB cS cJ) (fun U h => (E.2 U h).1) (by decide) rfl rfl (Nat.le_of_ble_eq_true rfl) ?_
  intro p e s m below meth c A ls hx hb hr hml hts hown hlk hKs hK hP hD hA hS hl hSt htab
  have hl : lv_has ls 1 [(0, .ref (aL 7 0))] := hl
  have hX : CallFix p m c cX3_stop 1 s _ wsX3_stop RX3 := ⟨hx, hb, hml, hown, hts⟩
  have hinX1 : ∀ w ∈ wsX10, w ∈ wsX3_stop := fun w h => List.mem_cons_of_mem _ (List.mem_append_left _ (List.mem_append_left _ (List.mem_append_left _ (List.mem_append_right _ h))))
  have hinX3 : ∀ w ∈ wsX30, w ∈ wsX3_stop := fun w h => List.mem_cons_of_mem _ (List.mem_append_left _ (List.mem_append_left _ (List.mem_append_left _ (List.mem_append_left _ (List.mem_append_right _ h)))))
  have q1 := hts (.classLink RX3 54 "java/lang/IllegalStateException") (List.mem_of_getElem? (i := 1) rfl)
  have q2 := hts (.initialized "java/lang/IllegalStateException") (List.mem_of_getElem? (i := 2) rfl)
  have q3 := hts (.fieldLink RX3 10 "LabelStation" "state" "LLabelStation$State;") (List.mem_of_getElem? (i := 3) rfl)
  have q4 := hts (.fieldLink RX3 22 "LabelStation" "history" "LLabelStation$History;") (List.mem_of_getElem? (i := 4) rfl)
  generalize hR : fx3_stop L = R
  rw [fx3_stop] at hR
  rw [sx3_stop] at hF
  refine lv_aload_n hx hb dX3_stop_0 rfl (lv_at hl 0 rfl) ?_
  refine va_get (D := D) (ci := 3) (v := .ref (aL 0 0)) (C := RX3) (T := TX3) (N := 5) hx hb hts hinX3 hown hK hP 0 rfl rfl 0 (by decide) q3 (fun _ h9 => h9) rfl dX3_stop_1 ?_
  refine va_getN (D := D) (ci := 1) (v := .int ((L 0) 3 1)) (C := RX1) (T := TX1) (N := 16) hx hb hts hinX1 hown hK hP 15 rfl rfl 9 (by decide) (va_Nw.use rfl ((E.2 s hKs).2.2.2.2.1)) (fun _ h9 => h9) rfl dX3_stop_4 ?_
  refine lv_if_ne (tgt := 20) hx hb dX3_stop_7 (by decide) (fun c1 => ?_) (fun c1 => ?_)
  · rw [if_neg c1] at hR hF
    refine lv_aload_n hx hb dX3_stop_20 rfl (lv_at hl 0 rfl) ?_
    refine va_get (D := D) (ci := 3) (v := .ref (aL 7 1)) (C := RX3) (T := TX3) (N := 5) hx hb hts hinX3 hown hK hP 0 rfl rfl 2 (by decide) q4 (fun _ h9 => h9) rfl dX3_stop_21 ?_
    refine lv_aload_n hx hb dX3_stop_24 rfl (lv_at hl 0 rfl) ?_
    refine va_get (D := D) (ci := 3) (v := .ref (aL 0 0)) (C := RX3) (T := TX3) (N := 5) hx hb hts hinX3 hown hK hP 0 rfl rfl 0 (by decide) q3 (fun _ h9 => h9) rfl dX3_stop_25 ?_
    have hs4 := hF
    refine kcV (ci := 0) (q0 := 14) (As := [.ref (aL 0 0)]) (rest := []) E.1 (cx0_save E aL L (hjn L) (hix_lt hs4.1) (hix_at hs4.1) hs4.2) hX (cwV 1 hts gX3_stop_X0_save rfl rfl rfl hdX0_save ⟨Nat.le_of_ble_eq_true rfl, Nat.le_of_ble_eq_true rfl⟩) hKs hK hP hD hS hA _ _ (ls_hs cI cB cS aL L) (lsh_save cI cB cS aL L hs4.1) rfl rfl rfl rfl hl.1 (Nat.le_of_ble_eq_true rfl) dX3_stop_28 ⟨Nat.zero_le _, Nat.zero_le _⟩ (fun H locs hP hD hS => ?_)
    have hP : va_P D vwCl (lsW cI cB cS aL (fxh_save L)) H := hP
    have hD : va_D A (lsW cI cB cS aL (fxh_save L)) := hD
    obtain ⟨L2, hR, hP, hD⟩ := kgen (P := fun X9 => va_P D vwCl (lsW cI cB cS aL X9) H ∧ va_D A (lsW cI cB cS aL X9)) hR ⟨hP, hD⟩
    refine lv_aload_n hx hb dX3_stop_31 rfl (lv_at hl 0 rfl) ?_
    refine va_get (D := D) (ci := 3) (v := .ref (aL 0 0)) (C := RX3) (T := TX3) (N := 5) hx hb hts hinX3 hown hK hP 0 rfl rfl 0 (by decide) q3 (fun _ h9 => h9) rfl dX3_stop_32 ?_
    refine lv_iconst (v := 0) hx hb dX3_stop_35 (by decide) ?_
    refine va_putN (D := D) (ci := 1) (v := .int 0) (ty := .boolean) (C := RX1) (T := TX1) (N := 16) hx hb hts hinX1 tyX1 tyX1_ok nmX1 hown hK hP hD hS 15 rfl rfl 9 (by decide) (va_Nw.use rfl ((E.2 s hKs).2.2.2.2.1)) (fun _ h9 => h9) rfl (by decide +kernel) rfl rfl (Nat.le_of_ble_eq_true rfl) dX3_stop_36 (fun H locs hP hD hS => ?_)
    have hP : va_P D vwCl (lsW cI cB cS aL (va_up L2 0 (sset (L2 0) 3 1 0))) H := hP
    have hD : va_D A (lsW cI cB cS aL (va_up L2 0 (sset (L2 0) 3 1 0))) := hD
    obtain ⟨L3, hR, hP, hD⟩ := kgen (P := fun X9 => va_P D vwCl (lsW cI cB cS aL X9) H ∧ va_D A (lsW cI cB cS aL X9)) hR ⟨hP, hD⟩
    refine lv_aload_n hx hb dX3_stop_39 rfl (lv_at hl 0 rfl) ?_
    refine va_get (D := D) (ci := 3) (v := .ref (aL 0 0)) (C := RX3) (T := TX3) (N := 5) hx hb hts hinX3 hown hK hP 0 rfl rfl 0 (by decide) q3 (fun _ h9 => h9) rfl dX3_stop_40 ?_
    refine va_getN (D := D) (ci := 1) (v := .ref (aL 0 4)) (C := RX1) (T := TX1) (N := 16) hx hb hts hinX1 hown hK hP 15 rfl rfl 3 (by decide) (va_Nw.use rfl ((E.2 s hKs).2.1)) (fun _ h9 => h9) rfl dX3_stop_43 ?_
    refine kcI (ci := 2) (q0 := 0) (As := []) (rest := []) E.1 (cx2_count E (aL 0 4) (aL 0 5) 4 20 80 (by decide) (stT (L3 0) 0)) hX (cwV 0 hts gX3_stop_X2_count rfl rfl rfl hdX2_count ⟨Nat.le_of_ble_eq_true rfl, Nat.le_of_ble_eq_true rfl⟩) hKs hK hP hD hS hA _ _ (ls_tb0 cI cB cS aL L3) (ls_tb0 cI cB cS aL L3).symm rfl rfl rfl rfl hl.1 (Nat.le_of_ble_eq_true rfl) dX3_stop_46 ⟨Nat.zero_le _, Nat.zero_le _⟩ (fun H locs hP hD hS => ?_)
    subst hR
    exact krX hx hb hr hlk hP hD hS dX3_stop_49 rfl rfl rfl
  · rw [if_pos c1] at hR hF
    obtain ⟨sa, hsa⟩ := (EX.2 s hKs).1.2.2.2.2.2.2.1
    exact (by subst hR; exact kthrow hx hb hfl hown kXfit2 q1 q2 hsa (vx_hat (fun w h => hts w (List.mem_cons_of_mem _ (List.mem_append_right _ h))) (fun _ h => h) (fun w h => va_Nw.use (kXot2 w h) ((EX.2 s hKs).2.2.1 w h))) kXgood2 hSt hP hD hS (hl.1.trans hml.symm) dX3_stop_10 dX3_stop_13 dX3_stop_14 dX3_stop_16 dX3_stop_19 htab (Nat.le_of_ble_eq_true rfl) (Nat.le_of_ble_eq_true rfl) hlk kec2 kXe2)

theorem hdX3_reset : yX3_reset.cls = RX3 ∧ yX3_reset.cls ≠ "java/lang/invoke/MethodHandle" ∧ yX3_reset.cls ≠ "java/lang/invoke/VarHandle" ∧ (parseMethodDescriptor yX3_reset.desc).map (fun d => d.parameters.length) = some 0 := by decide +kernel
def fx3_reset (L : (Nat → St)) : Int32 × Int32 × ((Nat → St)) := (if ((L 0) 3 2) = 0 then (2, 0, L) else (bnd (fxh_save L) (fun L2 => (bnd (va_up L2 0 (sset (L2 0) 3 2 0)) (fun L3 => (0, (L2 0) 3 2, L3))))))
def sx3_reset (L : (Nat → St)) : Prop := (if ((L 0) 3 2) = 0 then True else sxh_save L)
set_option maxHeartbeats 4000000 in
set_option maxRecDepth 100000 in
theorem cx3_reset {l : Launch} {D : va_G} {cI cB cS cJ : ClassId} {K : State → Prop} (EX : kEX D cI cB cS cJ K) (hfl : l.stackTraces = false) (aL : Nat → Nat → Nat) (L : (Nat → St)) (hF : sx3_reset L) : kX l D K yX3_reset wsX3_reset 6 165 [.ref (aL 7 0)] (lsW cI cB cS aL L) ((fx3_reset L).1) ((fx3_reset L).2.1) (lsW cI cB cS aL ((fx3_reset L).2.2)) := by
  have E := EX.1
  refine kX_of (own := RX3) (cc := cX3_reset) (maxL := 2) (tys := kty cI cB cS cJ) (fun U h => (E.2 U h).1) (by decide) rfl rfl (Nat.le_of_ble_eq_true rfl) ?_
  intro p e s m below meth c A ls hx hb hr hml hts hown hlk hKs hK hP hD hA hS hl hSt htab
  have hl : lv_has ls 2 [(0, .ref (aL 7 0))] := hl
  have hX : CallFix p m c cX3_reset 2 s _ wsX3_reset RX3 := ⟨hx, hb, hml, hown, hts⟩
  have hinX1 : ∀ w ∈ wsX10, w ∈ wsX3_reset := fun w h => List.mem_cons_of_mem _ (List.mem_append_left _ (List.mem_append_left _ (List.mem_append_left _ (List.mem_append_right _ h))))
  have hinX3 : ∀ w ∈ wsX30, w ∈ wsX3_reset := fun w h => List.mem_cons_of_mem _ (List.mem_append_left _ (List.mem_append_left _ (List.mem_append_left _ (List.mem_append_left _ (List.mem_append_right _ h)))))
  have q1 := hts (.classLink RX3 54 "java/lang/IllegalStateException") (List.mem_of_getElem? (i := 1) rfl)
  have q2 := hts (.initialized "java/lang/IllegalStateException") (List.mem_of_getElem? (i := 2) rfl)
  have q3 := hts (.fieldLink RX3 10 "LabelStation" "state" "LLabelStation$State;") (List.mem_of_getElem? (i := 3) rfl)
  have q4 := hts (.fieldLink RX3 22 "LabelStation" "history" "LLabelStation$History;") (List.mem_of_getElem? (i := 4) rfl)
  generalize hR : fx3_reset L = R
  rw [fx3_reset] at hR
  rw [sx3_reset] at hF
  refine lv_aload_n hx hb dX3_reset_0 rfl (lv_at hl 0 rfl) ?_
  refine va_get (D := D) (ci := 3) (v := .ref (aL 0 0)) (C := RX3) (T := TX3) (N := 5) hx hb hts hinX3 hown hK hP 0 rfl rfl 0 (by decide) q3 (fun _ h9 => h9) rfl dX3_reset_1 ?_
  refine va_getN (D := D) (ci := 1) (v := .int ((L 0) 3 2)) (C := RX1) (T := TX1) (N := 16) hx hb hts hinX1 hown hK hP 15 rfl rfl 10 (by decide) (va_Nw.use rfl ((E.2 s hKs).2.2.2.2.2.1)) (fun _ h9 => h9) rfl dX3_reset_4 ?_
  refine lv_if_ne (tgt := 20) hx hb dX3_reset_7 (by decide) (fun c1 => ?_) (fun c1 => ?_)
  · rw [if_neg c1] at hR hF
    refine lv_aload_n hx hb dX3_reset_20 rfl (lv_at hl 0 rfl) ?_
    refine va_get (D := D) (ci := 3) (v := .ref (aL 7 1)) (C := RX3) (T := TX3) (N := 5) hx hb hts hinX3 hown hK hP 0 rfl rfl 2 (by decide) q4 (fun _ h9 => h9) rfl dX3_reset_21 ?_
    refine lv_aload_n hx hb dX3_reset_24 rfl (lv_at hl 0 rfl) ?_
    refine va_get (D := D) (ci := 3) (v := .ref (aL 0 0)) (C := RX3) (T := TX3) (N := 5) hx hb hts hinX3 hown hK hP 0 rfl rfl 0 (by decide) q3 (fun _ h9 => h9) rfl dX3_reset_25 ?_
    have hs4 := hF
    refine kcV (ci := 0) (q0 := 14) (As := [.ref (aL 0 0)]) (rest := []) E.1 (cx0_save E aL L (hjn L) (hix_lt hs4.1) (hix_at hs4.1) hs4.2) hX (cwV 1 hts gX3_reset_X0_save rfl rfl rfl hdX0_save ⟨Nat.le_of_ble_eq_true rfl, Nat.le_of_ble_eq_true rfl⟩) hKs hK hP hD hS hA _ _ (ls_hs cI cB cS aL L) (lsh_save cI cB cS aL L hs4.1) rfl rfl rfl rfl hl.1 (Nat.le_of_ble_eq_true rfl) dX3_reset_28 ⟨Nat.zero_le _, Nat.zero_le _⟩ (fun H locs hP hD hS => ?_)
    have hP : va_P D vwCl (lsW cI cB cS aL (fxh_save L)) H := hP
    have hD : va_D A (lsW cI cB cS aL (fxh_save L)) := hD
    obtain ⟨L2, hR, hP, hD⟩ := kgen (P := fun X9 => va_P D vwCl (lsW cI cB cS aL X9) H ∧ va_D A (lsW cI cB cS aL X9)) hR ⟨hP, hD⟩
    refine lv_aload_n hx hb dX3_reset_31 rfl (lv_at hl 0 rfl) ?_
    refine va_get (D := D) (ci := 3) (v := .ref (aL 0 0)) (C := RX3) (T := TX3) (N := 5) hx hb hts hinX3 hown hK hP 0 rfl rfl 0 (by decide) q3 (fun _ h9 => h9) rfl dX3_reset_32 ?_
    refine va_getN (D := D) (ci := 1) (v := .int ((L2 0) 3 2)) (C := RX1) (T := TX1) (N := 16) hx hb hts hinX1 hown hK hP 15 rfl rfl 10 (by decide) (va_Nw.use rfl ((E.2 s hKs).2.2.2.2.2.1)) (fun _ h9 => h9) rfl dX3_reset_35 ?_
    refine lv_istore_n (lv' := [(1, .int ((L2 0) 3 2)), (0, .ref (aL 7 0))]) hx hb dX3_reset_38 rfl hl (by decide) rfl (fun ls hl => ?_)
    refine lv_aload_n hx hb dX3_reset_39 rfl (lv_at hl 1 rfl) ?_
    refine va_get (D := D) (ci := 3) (v := .ref (aL 0 0)) (C := RX3) (T := TX3) (N := 5) hx hb hts hinX3 hown hK hP 0 rfl rfl 0 (by decide) q3 (fun _ h9 => h9) rfl dX3_reset_40 ?_
    refine lv_iconst (v := 0) hx hb dX3_reset_43 (by decide) ?_
    refine va_putN (D := D) (ci := 1) (v := .int 0) (ty := .int) (C := RX1) (T := TX1) (N := 16) hx hb hts hinX1 tyX1 tyX1_ok nmX1 hown hK hP hD hS 15 rfl rfl 10 (by decide) (va_Nw.use rfl ((E.2 s hKs).2.2.2.2.2.1)) (fun _ h9 => h9) rfl (by decide +kernel) rfl rfl (Nat.le_of_ble_eq_true rfl) dX3_reset_44 (fun H locs hP hD hS => ?_)
    have hP : va_P D vwCl (lsW cI cB cS aL (va_up L2 0 (sset (L2 0) 3 2 0))) H := hP
    have hD : va_D A (lsW cI cB cS aL (va_up L2 0 (sset (L2 0) 3 2 0))) := hD
    obtain ⟨L3, hR, hP, hD⟩ := kgen (P := fun X9 => va_P D vwCl (lsW cI cB cS aL X9) H ∧ va_D A (lsW cI cB cS aL X9)) hR ⟨hP, hD⟩
    refine lv_iload_n hx hb dX3_reset_47 rfl (lv_at hl 0 rfl) ?_
    subst hR
    exact krX hx hb hr hlk hP hD hS dX3_reset_48 rfl rfl rfl
  · rw [if_pos c1] at hR hF
    obtain ⟨sa, hsa⟩ := (EX.2 s hKs).1.2.2.2.2.2.2.2.1
    exact (by subst hR; exact kthrow hx hb hfl hown kXfit2 q1 q2 hsa (vx_hat (fun w h => hts w (List.mem_cons_of_mem _ (List.mem_append_right _ h))) (fun _ h => h) (fun w h => va_Nw.use (kXot2 w h) ((EX.2 s hKs).2.2.1 w h))) kXgood2 hSt hP hD hS (hl.1.trans hml.symm) dX3_reset_10 dX3_reset_13 dX3_reset_14 dX3_reset_16 dX3_reset_19 htab (Nat.le_of_ble_eq_true rfl) (Nat.le_of_ble_eq_true rfl) hlk kec2 kXe2)

theorem hdX3_feed : yX3_feed.cls = RX3 ∧ yX3_feed.cls ≠ "java/lang/invoke/MethodHandle" ∧ yX3_feed.cls ≠ "java/lang/invoke/VarHandle" ∧ (parseMethodDescriptor yX3_feed.desc).map (fun d => d.parameters.length) = some 1 := by decide +kernel
def fx3_feed (L : (Nat → St)) (x1 : Int32) : Int32 × Int32 × ((Nat → St)) := (if x1 < 0 then (1, 0, L) else (if x1 ≤ 3 then (bnd (fx1_hasRoom (L 0)) (fun v3 => (if v3 = 0 then (2, 0, L) else (bnd (fxh_save L) (fun L5 => (bnd (fx1_enter (L5 0) x1) (fun u6 => (0, u6.1, va_up L5 0 u6.2)))))))) else (1, 0, L)))
def sx3_feed (L : (Nat → St)) (x1 : Int32) : Prop := (if x1 < 0 then True else (if x1 ≤ 3 then (sx1_hasRoom (L 0) ∧ (bnd (fx1_hasRoom (L 0)) (fun v3 => (if v3 = 0 then True else (sxh_save L ∧ (bnd (fxh_save L) (fun L5 => sx1_enter (L5 0) x1))))))) else True))
set_option maxHeartbeats 4000000 in
set_option maxRecDepth 100000 in
theorem cx3_feed {l : Launch} {D : va_G} {cI cB cS cJ : ClassId} {K : State → Prop} (EX : kEX D cI cB cS cJ K) (hfl : l.stackTraces = false) (aL : Nat → Nat → Nat) (L : (Nat → St)) (x1 : Int32) (hF : sx3_feed L x1) : kX l D K yX3_feed wsX3_feed 6 165 [.ref (aL 7 0), .int x1] (lsW cI cB cS aL L) ((fx3_feed L x1).1) ((fx3_feed L x1).2.1) (lsW cI cB cS aL ((fx3_feed L x1).2.2)) := by
  have E := EX.1
  refine kX_of (own := RX3) (cc := cX3_feed) (maxL := 2) (tys := kty cI cB cS cJ) (fun U h => (E.2 U h).1) (by decide) rfl rfl (Nat.le_of_ble_eq_true rfl) ?_
  intro p e s m below meth c A ls hx hb hr hml hts hown hlk hKs hK hP hD hA hS hl hSt htab
  have hl : lv_has ls 2 [(0, .ref (aL 7 0)), (1, .int x1)] := hl
  have hX : CallFix p m c cX3_feed 2 s _ wsX3_feed RX3 := ⟨hx, hb, hml, hown, hts⟩
  have hinX3 : ∀ w ∈ wsX30, w ∈ wsX3_feed := fun w h => List.mem_cons_of_mem _ (List.mem_append_left _ (List.mem_append_left _ (List.mem_append_left _ (List.mem_append_left _ (List.mem_append_left _ (List.mem_append_right _ h))))))
  have q1 := hts (.classLink RX3 34 "java/lang/IllegalArgumentException") (List.mem_of_getElem? (i := 1) rfl)
  have q2 := hts (.initialized "java/lang/IllegalArgumentException") (List.mem_of_getElem? (i := 2) rfl)
  have q3 := hts (.classLink RX3 54 "java/lang/IllegalStateException") (List.mem_of_getElem? (i := 3) rfl)
  have q4 := hts (.initialized "java/lang/IllegalStateException") (List.mem_of_getElem? (i := 4) rfl)
  have q5 := hts (.fieldLink RX3 10 "LabelStation" "state" "LLabelStation$State;") (List.mem_of_getElem? (i := 5) rfl)
  have q6 := hts (.fieldLink RX3 22 "LabelStation" "history" "LLabelStation$History;") (List.mem_of_getElem? (i := 6) rfl)
  generalize hR : fx3_feed L x1 = R
  rw [fx3_feed] at hR
  rw [sx3_feed] at hF
  refine lv_iload_n hx hb dX3_feed_0 rfl (lv_at hl 1 rfl) ?_
  refine lv_if_lt (tgt := 9) hx hb dX3_feed_1 (by decide) (fun c1 => ?_) (fun c1 => ?_)
  · rw [if_pos c1] at hR hF
    obtain ⟨sa, hsa⟩ := (EX.2 s hKs).1.2.2.2.2.2.2.2.2.1
    exact (by subst hR; exact kthrow hx hb hfl hown kXfit1 q1 q2 hsa (vx_hat (fun w h => hts w (List.mem_cons_of_mem _ (List.mem_append_left _ (List.mem_append_right _ h)))) (fun _ h => h) (fun w h => va_Nw.use (kXot1 w h) ((EX.2 s hKs).2.1 w h))) kXgood1 hSt hP hD hS (hl.1.trans hml.symm) dX3_feed_9 dX3_feed_12 dX3_feed_13 dX3_feed_15 dX3_feed_18 htab (Nat.le_of_ble_eq_true rfl) (Nat.le_of_ble_eq_true rfl) hlk kec1 kXe1)
  · rw [if_neg c1] at hR hF
    refine lv_iload_n hx hb dX3_feed_4 rfl (lv_at hl 1 rfl) ?_
    refine lv_iconst (v := 3) hx hb dX3_feed_5 (by decide) ?_
    refine lv_icmp_le (tgt := 19) hx hb dX3_feed_6 (by decide) (fun c2 => ?_) (fun c2 => ?_)
    · rw [if_pos c2] at hR hF
      refine lv_aload_n hx hb dX3_feed_19 rfl (lv_at hl 0 rfl) ?_
      refine va_get (D := D) (ci := 3) (v := .ref (aL 0 0)) (C := RX3) (T := TX3) (N := 5) hx hb hts hinX3 hown hK hP 0 rfl rfl 0 (by decide) q5 (fun _ h9 => h9) rfl dX3_feed_20 ?_
      obtain ⟨hs9, hF⟩ := hF
      refine kcI (ci := 1) (q0 := 0) (As := []) (rest := []) E.1 (cx1_hasRoom E (aL 0) (L 0) hs9) hX (cwV 0 hts gX3_feed_X1_hasRoom rfl rfl rfl hdX1_hasRoom ⟨Nat.le_of_ble_eq_true rfl, Nat.le_of_ble_eq_true rfl⟩) hKs hK hP hD hS hA _ _ (ls_st0 cI cB cS aL L) (ls_st0 cI cB cS aL L).symm rfl rfl rfl rfl hl.1 (Nat.le_of_ble_eq_true rfl) dX3_feed_23 ⟨Nat.zero_le _, Nat.zero_le _⟩ (fun H locs hP hD hS => ?_)
      generalize ev3 : fx1_hasRoom (L 0) = v3 at hR hF ⊢
      replace hR := bnd_e hR
      replace hF := bnd_p hF
      refine lv_if_ne (tgt := 39) hx hb dX3_feed_26 (by decide) (fun c4 => ?_) (fun c4 => ?_)
      · rw [if_neg c4] at hR hF
        refine lv_aload_n hx hb dX3_feed_39 rfl (lv_at hl 0 rfl) ?_
        refine va_get (D := D) (ci := 3) (v := .ref (aL 7 1)) (C := RX3) (T := TX3) (N := 5) hx hb hts hinX3 hown hK hP 0 rfl rfl 2 (by decide) q6 (fun _ h9 => h9) rfl dX3_feed_40 ?_
        refine lv_aload_n hx hb dX3_feed_43 rfl (lv_at hl 0 rfl) ?_
        refine va_get (D := D) (ci := 3) (v := .ref (aL 0 0)) (C := RX3) (T := TX3) (N := 5) hx hb hts hinX3 hown hK hP 0 rfl rfl 0 (by decide) q5 (fun _ h9 => h9) rfl dX3_feed_44 ?_
        obtain ⟨hs8, hF⟩ := hF
        refine kcV (ci := 0) (q0 := 14) (As := [.ref (aL 0 0)]) (rest := []) E.1 (cx0_save E aL L (hjn L) (hix_lt hs8.1) (hix_at hs8.1) hs8.2) hX (cwV 1 hts gX3_feed_X0_save rfl rfl rfl hdX0_save ⟨Nat.le_of_ble_eq_true rfl, Nat.le_of_ble_eq_true rfl⟩) hKs hK hP hD hS hA _ _ (ls_hs cI cB cS aL L) (lsh_save cI cB cS aL L hs8.1) rfl rfl rfl rfl hl.1 (Nat.le_of_ble_eq_true rfl) dX3_feed_47 ⟨Nat.zero_le _, Nat.zero_le _⟩ (fun H locs hP hD hS => ?_)
        have hP : va_P D vwCl (lsW cI cB cS aL (fxh_save L)) H := hP
        have hD : va_D A (lsW cI cB cS aL (fxh_save L)) := hD
        obtain ⟨L5, hR, hF, hP, hD⟩ := kgenF (P := fun X9 => va_P D vwCl (lsW cI cB cS aL X9) H ∧ va_D A (lsW cI cB cS aL X9)) hR hF ⟨hP, hD⟩
        refine lv_aload_n hx hb dX3_feed_50 rfl (lv_at hl 0 rfl) ?_
        refine va_get (D := D) (ci := 3) (v := .ref (aL 0 0)) (C := RX3) (T := TX3) (N := 5) hx hb hts hinX3 hown hK hP 0 rfl rfl 0 (by decide) q5 (fun _ h9 => h9) rfl dX3_feed_51 ?_
        refine lv_iload_n hx hb dX3_feed_54 rfl (lv_at hl 1 rfl) ?_
        have hs7 := hF
        refine kcI (ci := 1) (q0 := 0) (As := [.int x1]) (rest := []) E.1 (cx1_enter E (aL 0) (L5 0) x1 hs7) hX (cwV 1 hts gX3_feed_X1_enter rfl rfl rfl hdX1_enter ⟨Nat.le_of_ble_eq_true rfl, Nat.le_of_ble_eq_true rfl⟩) hKs hK hP hD hS hA _ _ (ls_st0 cI cB cS aL L5) (ls_st0' cI cB cS aL L5 _) rfl rfl rfl rfl hl.1 (Nat.le_of_ble_eq_true rfl) dX3_feed_55 ⟨Nat.zero_le _, Nat.zero_le _⟩ (fun H locs hP hD hS => ?_)
        have hP : va_P D vwCl (lsW cI cB cS aL (va_up L5 0 ((fx1_enter (L5 0) x1).2))) H := hP
        have hD : va_D A (lsW cI cB cS aL (va_up L5 0 ((fx1_enter (L5 0) x1).2))) := hD
        generalize eu6 : fx1_enter (L5 0) x1 = u6 at hR hP hD ⊢
        replace hR := bnd_e hR
        subst hR
        exact krX hx hb hr hlk hP hD hS dX3_feed_58 rfl rfl rfl
      · rw [if_pos c4] at hR hF
        obtain ⟨sa, hsa⟩ := (EX.2 s hKs).1.2.2.2.2.2.2.2.2.2.1
        exact (by subst hR; exact kthrow hx hb hfl hown kXfit2 q3 q4 hsa (vx_hat (fun w h => hts w (List.mem_cons_of_mem _ (List.mem_append_right _ h))) (fun _ h => h) (fun w h => va_Nw.use (kXot2 w h) ((EX.2 s hKs).2.2.1 w h))) kXgood2 hSt hP hD hS (hl.1.trans hml.symm) dX3_feed_29 dX3_feed_32 dX3_feed_33 dX3_feed_35 dX3_feed_38 htab (Nat.le_of_ble_eq_true rfl) (Nat.le_of_ble_eq_true rfl) hlk kec2 kXe2)
    · rw [if_neg c2] at hR hF
      obtain ⟨sa, hsa⟩ := (EX.2 s hKs).1.2.2.2.2.2.2.2.2.1
      exact (by subst hR; exact kthrow hx hb hfl hown kXfit1 q1 q2 hsa (vx_hat (fun w h => hts w (List.mem_cons_of_mem _ (List.mem_append_left _ (List.mem_append_right _ h)))) (fun _ h => h) (fun w h => va_Nw.use (kXot1 w h) ((EX.2 s hKs).2.1 w h))) kXgood1 hSt hP hD hS (hl.1.trans hml.symm) dX3_feed_9 dX3_feed_12 dX3_feed_13 dX3_feed_15 dX3_feed_18 htab (Nat.le_of_ble_eq_true rfl) (Nat.le_of_ble_eq_true rfl) hlk kec1 kXe1)

theorem hdX3_slip : yX3_slip.cls = RX3 ∧ yX3_slip.cls ≠ "java/lang/invoke/MethodHandle" ∧ yX3_slip.cls ≠ "java/lang/invoke/VarHandle" ∧ (parseMethodDescriptor yX3_slip.desc).map (fun d => d.parameters.length) = some 2 := by decide +kernel
def fx3_slip (L : (Nat → St)) (x1 : Int32) (x2 : Int32) : Int32 × Int32 × ((Nat → St)) := (bnd (fx2_find 4 20 80 (stT (L 0) 0) x1) (fun v1 => (if v1 = (-1) then (3, 0, L) else (if x2 < (-30) then (1, 0, L) else (if x2 ≤ 30 then (if ((fx2_get 4 20 80 (stT (L 0) 0) v1 1) + x2) < 0 then (1, 0, L) else (if ((fx2_get 4 20 80 (stT (L 0) 0) v1 1) + x2) < (fx1_place (L 0) 4) then (bnd (fxh_save L) (fun L7 => (bnd (va_up L7 0 (stP (L7 0) 0 (fx2_put 4 20 80 (stT (L7 0) 0) v1 1 ((fx2_get 4 20 80 (stT (L 0) 0) v1 1) + x2)))) (fun S8 => (0, (fx2_get 4 20 80 (stT (L 0) 0) v1 1) + x2, S8))))) else (1, 0, L))) else (1, 0, L))))))
def sx3_slip (L : (Nat → St)) (x1 : Int32) (x2 : Int32) : Prop := (sx2_find 4 20 80 (stT (L 0) 0) x1 ∧ (bnd (fx2_find 4 20 80 (stT (L 0) 0) x1) (fun v1 => (if v1 = (-1) then True else (if x2 < (-30) then True else (if x2 ≤ 30 then (if ((fx2_get 4 20 80 (stT (L 0) 0) v1 1) + x2) < 0 then True else (if ((fx2_get 4 20 80 (stT (L 0) 0) v1 1) + x2) < (fx1_place (L 0) 4) then sxh_save L else True)) else True))))))
set_option maxHeartbeats 4000000 in
set_option maxRecDepth 100000 in
theorem cx3_slip {l : Launch} {D : va_G} {cI cB cS cJ : ClassId} {K : State → Prop} (EX : kEX D cI cB cS cJ K) (hfl : l.stackTraces = false) (aL : Nat → Nat → Nat) (L : (Nat → St)) (x1 : Int32) (x2 : Int32) (hF : sx3_slip L x1 x2) : kX l D K yX3_slip wsX3_slip 6 165 [.ref (aL 7 0), .int x1, .int x2] (lsW cI cB cS aL L) ((fx3_slip L x1 x2).1) ((fx3_slip L x1 x2).2.1) (lsW cI cB cS aL ((fx3_slip L x1 x2).2.2)) := by
  have E := EX.1
  refine kX_of (own := RX3) (cc := cX3_slip) (maxL := 5) (tys := kty cI cB cS cJ) (fun U h => (E.2 U h).1) (by decide) rfl rfl (Nat.le_of_ble_eq_true rfl) ?_
  intro p e s m below meth c A ls hx hb hr hml hts hown hlk hKs hK hP hD hA hS hl hSt htab
  have hl : lv_has ls 5 [(0, .ref (aL 7 0)), (1, .int x1), (2, .int x2)] := hl
  have hX : CallFix p m c cX3_slip 5 s _ wsX3_slip RX3 := ⟨hx, hb, hml, hown, hts⟩
  have hinX1 : ∀ w ∈ wsX10, w ∈ wsX3_slip := fun w h => List.mem_cons_of_mem _ (List.mem_append_left _ (List.mem_append_left _ (List.mem_append_left _ (List.mem_append_left _ (List.mem_append_right _ h)))))
  have hinX3 : ∀ w ∈ wsX30, w ∈ wsX3_slip := fun w h => List.mem_cons_of_mem _ (List.mem_append_left _ (List.mem_append_left _ (List.mem_append_left _ (List.mem_append_left _ (List.mem_append_left _ (List.mem_append_right _ h))))))
  have q1 := hts (.classLink RX3 129 "java/util/NoSuchElementException") (List.mem_of_getElem? (i := 1) rfl)
  have q2 := hts (.initialized "java/util/NoSuchElementException") (List.mem_of_getElem? (i := 2) rfl)
  have q3 := hts (.classLink RX3 34 "java/lang/IllegalArgumentException") (List.mem_of_getElem? (i := 3) rfl)
  have q4 := hts (.initialized "java/lang/IllegalArgumentException") (List.mem_of_getElem? (i := 4) rfl)
  have q5 := hts (.fieldLink RX3 10 "LabelStation" "state" "LLabelStation$State;") (List.mem_of_getElem? (i := 5) rfl)
  have q6 := hts (.fieldLink RX3 22 "LabelStation" "history" "LLabelStation$History;") (List.mem_of_getElem? (i := 6) rfl)
  generalize hR : fx3_slip L x1 x2 = R
  rw [fx3_slip] at hR
  rw [sx3_slip] at hF
  refine lv_aload_n hx hb dX3_slip_0 rfl (lv_at hl 0 rfl) ?_
  refine va_get (D := D) (ci := 3) (v := .ref (aL 0 0)) (C := RX3) (T := TX3) (N := 5) hx hb hts hinX3 hown hK hP 0 rfl rfl 0 (by decide) q5 (fun _ h9 => h9) rfl dX3_slip_1 ?_
  refine va_getN (D := D) (ci := 1) (v := .ref (aL 0 4)) (C := RX1) (T := TX1) (N := 16) hx hb hts hinX1 hown hK hP 15 rfl rfl 3 (by decide) (va_Nw.use rfl ((E.2 s hKs).2.1)) (fun _ h9 => h9) rfl dX3_slip_4 ?_
  refine lv_iload_n hx hb dX3_slip_7 rfl (lv_at hl 1 rfl) ?_
  obtain ⟨hs10, hF⟩ := hF
  refine kcI (ci := 2) (q0 := 0) (As := [.int x1]) (rest := []) E.1 (cx2_find E (aL 0 4) (aL 0 5) 4 20 80 (by decide) (stT (L 0) 0) x1 hs10) hX (cwV 1 hts gX3_slip_X2_find rfl rfl rfl hdX2_find ⟨Nat.le_of_ble_eq_true rfl, Nat.le_of_ble_eq_true rfl⟩) hKs hK hP hD hS hA _ _ (ls_tb0 cI cB cS aL L) (ls_tb0 cI cB cS aL L).symm rfl rfl rfl rfl hl.1 (Nat.le_of_ble_eq_true rfl) dX3_slip_8 ⟨Nat.zero_le _, Nat.zero_le _⟩ (fun H locs hP hD hS => ?_)
  generalize ev1 : fx2_find 4 20 80 (stT (L 0) 0) x1 = v1 at hR hF ⊢
  replace hR := bnd_e hR
  replace hF := bnd_p hF
  refine lv_istore_n (lv' := [(3, .int v1), (0, .ref (aL 7 0)), (1, .int x1), (2, .int x2)]) hx hb dX3_slip_11 rfl hl (by decide) rfl (fun ls hl => ?_)
  refine lv_iload_n hx hb dX3_slip_12 rfl (lv_at hl 0 rfl) ?_
  refine lv_iconst (v := (-1)) hx hb dX3_slip_13 (by decide) ?_
  refine lv_icmp_ne (tgt := 27) hx hb dX3_slip_14 (by decide) (fun c2 => ?_) (fun c2 => ?_)
  · rw [if_neg c2] at hR hF
    refine lv_iload_n hx hb dX3_slip_27 rfl (lv_at hl 3 rfl) ?_
    refine lv_bipush (v := (-30)) hx hb dX3_slip_28 (by decide) ?_
    refine lv_icmp_lt (tgt := 39) hx hb dX3_slip_30 (by decide) (fun c3 => ?_) (fun c3 => ?_)
    · rw [if_pos c3] at hR hF
      obtain ⟨sa, hsa⟩ := (EX.2 s hKs).1.2.2.2.2.2.2.2.2.2.2.2.1
      exact (by subst hR; exact kthrow hx hb hfl hown kXfit1 q3 q4 hsa (vx_hat (fun w h => hts w (List.mem_cons_of_mem _ (List.mem_append_right _ h))) (fun _ h => h) (fun w h => va_Nw.use (kXot1 w h) ((EX.2 s hKs).2.1 w h))) kXgood1 hSt hP hD hS (hl.1.trans hml.symm) dX3_slip_39 dX3_slip_42 dX3_slip_43 dX3_slip_45 dX3_slip_48 htab (Nat.le_of_ble_eq_true rfl) (Nat.le_of_ble_eq_true rfl) hlk kec1 kXe1)
    · rw [if_neg c3] at hR hF
      refine lv_iload_n hx hb dX3_slip_33 rfl (lv_at hl 3 rfl) ?_
      refine lv_bipush (v := 30) hx hb dX3_slip_34 (by decide) ?_
      refine lv_icmp_le (tgt := 49) hx hb dX3_slip_36 (by decide) (fun c4 => ?_) (fun c4 => ?_)
      · rw [if_pos c4] at hR hF
        refine lv_aload_n hx hb dX3_slip_49 rfl (lv_at hl 1 rfl) ?_
        refine va_get (D := D) (ci := 3) (v := .ref (aL 0 0)) (C := RX3) (T := TX3) (N := 5) hx hb hts hinX3 hown hK hP 0 rfl rfl 0 (by decide) q5 (fun _ h9 => h9) rfl dX3_slip_50 ?_
        refine va_getN (D := D) (ci := 1) (v := .ref (aL 0 4)) (C := RX1) (T := TX1) (N := 16) hx hb hts hinX1 hown hK hP 15 rfl rfl 3 (by decide) (va_Nw.use rfl ((E.2 s hKs).2.1)) (fun _ h9 => h9) rfl dX3_slip_53 ?_
        refine lv_iload_n hx hb dX3_slip_56 rfl (lv_at hl 0 rfl) ?_
        refine lv_iconst (v := 1) hx hb dX3_slip_57 (by decide) ?_
        refine kcI (ci := 2) (q0 := 0) (As := [.int v1, .int 1]) (rest := []) E.1 (cx2_get E (aL 0 4) (aL 0 5) 4 20 80 (by decide) (stT (L 0) 0) v1 1) hX (cwV 2 hts gX3_slip_X2_get rfl rfl rfl hdX2_get ⟨Nat.le_of_ble_eq_true rfl, Nat.le_of_ble_eq_true rfl⟩) hKs hK hP hD hS hA _ _ (ls_tb0 cI cB cS aL L) (ls_tb0 cI cB cS aL L).symm rfl rfl rfl rfl hl.1 (Nat.le_of_ble_eq_true rfl) dX3_slip_58 ⟨Nat.zero_le _, Nat.zero_le _⟩ (fun H locs hP hD hS => ?_)
        refine lv_iload_n hx hb dX3_slip_61 rfl (lv_at hl 3 rfl) ?_
        refine lv_iadd hx hb dX3_slip_62 ?_
        refine lv_istore (lv' := [(4, .int ((fx2_get 4 20 80 (stT (L 0) 0) v1 1) + x2)), (3, .int v1), (0, .ref (aL 7 0)), (1, .int x1), (2, .int x2)]) hx hb dX3_slip_63 hl (by decide) rfl (fun ls hl => ?_)
        refine lv_iload hx hb dX3_slip_65 (lv_at hl 0 rfl) ?_
        refine lv_if_lt (tgt := 83) hx hb dX3_slip_67 (by decide) (fun c5 => ?_) (fun c5 => ?_)
        · rw [if_pos c5] at hR hF
          obtain ⟨sa, hsa⟩ := (EX.2 s hKs).1.2.2.2.2.2.2.2.2.2.2.2.2.1
          exact (by subst hR; exact kthrow hx hb hfl hown kXfit1 q3 q4 hsa (vx_hat (fun w h => hts w (List.mem_cons_of_mem _ (List.mem_append_right _ h))) (fun _ h => h) (fun w h => va_Nw.use (kXot1 w h) ((EX.2 s hKs).2.1 w h))) kXgood1 hSt hP hD hS (hl.1.trans hml.symm) dX3_slip_83 dX3_slip_86 dX3_slip_87 dX3_slip_89 dX3_slip_92 htab (Nat.le_of_ble_eq_true rfl) (Nat.le_of_ble_eq_true rfl) hlk kec1 kXe1)
        · rw [if_neg c5] at hR hF
          refine lv_iload hx hb dX3_slip_70 (lv_at hl 0 rfl) ?_
          refine lv_aload_n hx hb dX3_slip_72 rfl (lv_at hl 2 rfl) ?_
          refine va_get (D := D) (ci := 3) (v := .ref (aL 0 0)) (C := RX3) (T := TX3) (N := 5) hx hb hts hinX3 hown hK hP 0 rfl rfl 0 (by decide) q5 (fun _ h9 => h9) rfl dX3_slip_73 ?_
          refine lv_iconst (v := 4) hx hb dX3_slip_76 (by decide) ?_
          refine kcI (ci := 1) (q0 := 0) (As := [.int 4]) (rest := [.int ((fx2_get 4 20 80 (stT (L 0) 0) v1 1) + x2)]) E.1 (cx1_place E (aL 0) (L 0) 4) hX (cwV 1 hts gX3_slip_X1_place rfl rfl rfl hdX1_place ⟨Nat.le_of_ble_eq_true rfl, Nat.le_of_ble_eq_true rfl⟩) hKs hK hP hD hS hA _ _ (ls_st0 cI cB cS aL L) (ls_st0 cI cB cS aL L).symm rfl rfl rfl rfl hl.1 (Nat.le_of_ble_eq_true rfl) dX3_slip_77 ⟨Nat.zero_le _, Nat.zero_le _⟩ (fun H locs hP hD hS => ?_)
          refine lv_icmp_lt (tgt := 93) hx hb dX3_slip_80 (by decide) (fun c6 => ?_) (fun c6 => ?_)
          · rw [if_pos c6] at hR hF
            refine lv_aload_n hx hb dX3_slip_93 rfl (lv_at hl 2 rfl) ?_
            refine va_get (D := D) (ci := 3) (v := .ref (aL 7 1)) (C := RX3) (T := TX3) (N := 5) hx hb hts hinX3 hown hK hP 0 rfl rfl 2 (by decide) q6 (fun _ h9 => h9) rfl dX3_slip_94 ?_
            refine lv_aload_n hx hb dX3_slip_97 rfl (lv_at hl 2 rfl) ?_
            refine va_get (D := D) (ci := 3) (v := .ref (aL 0 0)) (C := RX3) (T := TX3) (N := 5) hx hb hts hinX3 hown hK hP 0 rfl rfl 0 (by decide) q5 (fun _ h9 => h9) rfl dX3_slip_98 ?_
            have hs9 := hF
            refine kcV (ci := 0) (q0 := 14) (As := [.ref (aL 0 0)]) (rest := []) E.1 (cx0_save E aL L (hjn L) (hix_lt hs9.1) (hix_at hs9.1) hs9.2) hX (cwV 1 hts gX3_slip_X0_save rfl rfl rfl hdX0_save ⟨Nat.le_of_ble_eq_true rfl, Nat.le_of_ble_eq_true rfl⟩) hKs hK hP hD hS hA _ _ (ls_hs cI cB cS aL L) (lsh_save cI cB cS aL L hs9.1) rfl rfl rfl rfl hl.1 (Nat.le_of_ble_eq_true rfl) dX3_slip_101 ⟨Nat.zero_le _, Nat.zero_le _⟩ (fun H locs hP hD hS => ?_)
            have hP : va_P D vwCl (lsW cI cB cS aL (fxh_save L)) H := hP
            have hD : va_D A (lsW cI cB cS aL (fxh_save L)) := hD
            obtain ⟨L7, hR, hP, hD⟩ := kgen (P := fun X9 => va_P D vwCl (lsW cI cB cS aL X9) H ∧ va_D A (lsW cI cB cS aL X9)) hR ⟨hP, hD⟩
            refine lv_aload_n hx hb dX3_slip_104 rfl (lv_at hl 2 rfl) ?_
            refine va_get (D := D) (ci := 3) (v := .ref (aL 0 0)) (C := RX3) (T := TX3) (N := 5) hx hb hts hinX3 hown hK hP 0 rfl rfl 0 (by decide) q5 (fun _ h9 => h9) rfl dX3_slip_105 ?_
            refine va_getN (D := D) (ci := 1) (v := .ref (aL 0 4)) (C := RX1) (T := TX1) (N := 16) hx hb hts hinX1 hown hK hP 15 rfl rfl 3 (by decide) (va_Nw.use rfl ((E.2 s hKs).2.1)) (fun _ h9 => h9) rfl dX3_slip_108 ?_
            refine lv_iload_n hx hb dX3_slip_111 rfl (lv_at hl 1 rfl) ?_
            refine lv_iconst (v := 1) hx hb dX3_slip_112 (by decide) ?_
            refine lv_iload hx hb dX3_slip_113 (lv_at hl 0 rfl) ?_
            refine kcV (ci := 2) (q0 := 0) (As := [.int v1, .int 1, .int ((fx2_get 4 20 80 (stT (L 0) 0) v1 1) + x2)]) (rest := []) E.1 (cx2_put E (aL 0 4) (aL 0 5) 4 20 80 (by decide) (stT (L7 0) 0) v1 1 ((fx2_get 4 20 80 (stT (L 0) 0) v1 1) + x2)) hX (cwV 3 hts gX3_slip_X2_put rfl rfl rfl hdX2_put ⟨Nat.le_of_ble_eq_true rfl, Nat.le_of_ble_eq_true rfl⟩) hKs hK hP hD hS hA _ _ (ls_tb0 cI cB cS aL L7) (ls_tb0' cI cB cS aL L7 _) rfl rfl rfl rfl hl.1 (Nat.le_of_ble_eq_true rfl) dX3_slip_115 ⟨Nat.zero_le _, Nat.zero_le _⟩ (fun H locs hP hD hS => ?_)
            have hP : va_P D vwCl (lsW cI cB cS aL (va_up L7 0 (stP (L7 0) 0 (fx2_put 4 20 80 (stT (L7 0) 0) v1 1 ((fx2_get 4 20 80 (stT (L 0) 0) v1 1) + x2))))) H := hP
            have hD : va_D A (lsW cI cB cS aL (va_up L7 0 (stP (L7 0) 0 (fx2_put 4 20 80 (stT (L7 0) 0) v1 1 ((fx2_get 4 20 80 (stT (L 0) 0) v1 1) + x2))))) := hD
            obtain ⟨S8, hR, hP, hD⟩ := kgen (P := fun X9 => va_P D vwCl (lsW cI cB cS aL X9) H ∧ va_D A (lsW cI cB cS aL X9)) hR ⟨hP, hD⟩
            refine lv_iload hx hb dX3_slip_118 (lv_at hl 0 rfl) ?_
            subst hR
            exact krX hx hb hr hlk hP hD hS dX3_slip_120 rfl rfl rfl
          · rw [if_neg c6] at hR hF
            obtain ⟨sa, hsa⟩ := (EX.2 s hKs).1.2.2.2.2.2.2.2.2.2.2.2.2.1
            exact (by subst hR; exact kthrow hx hb hfl hown kXfit1 q3 q4 hsa (vx_hat (fun w h => hts w (List.mem_cons_of_mem _ (List.mem_append_right _ h))) (fun _ h => h) (fun w h => va_Nw.use (kXot1 w h) ((EX.2 s hKs).2.1 w h))) kXgood1 hSt hP hD hS (hl.1.trans hml.symm) dX3_slip_83 dX3_slip_86 dX3_slip_87 dX3_slip_89 dX3_slip_92 htab (Nat.le_of_ble_eq_true rfl) (Nat.le_of_ble_eq_true rfl) hlk kec1 kXe1)
      · rw [if_neg c4] at hR hF
        obtain ⟨sa, hsa⟩ := (EX.2 s hKs).1.2.2.2.2.2.2.2.2.2.2.2.1
        exact (by subst hR; exact kthrow hx hb hfl hown kXfit1 q3 q4 hsa (vx_hat (fun w h => hts w (List.mem_cons_of_mem _ (List.mem_append_right _ h))) (fun _ h => h) (fun w h => va_Nw.use (kXot1 w h) ((EX.2 s hKs).2.1 w h))) kXgood1 hSt hP hD hS (hl.1.trans hml.symm) dX3_slip_39 dX3_slip_42 dX3_slip_43 dX3_slip_45 dX3_slip_48 htab (Nat.le_of_ble_eq_true rfl) (Nat.le_of_ble_eq_true rfl) hlk kec1 kXe1)
  · rw [if_pos c2] at hR hF
    obtain ⟨sa, hsa⟩ := (EX.2 s hKs).1.2.2.2.2.2.2.2.2.2.2.1
    exact (by subst hR; exact kthrow3 hx hb hfl hown kXfit3 q1 q2 hsa (vx_hat (fun w h => hts w (List.mem_cons_of_mem _ (List.mem_append_left _ (List.mem_append_right _ h)))) (fun _ h => h) (fun w h => va_Nw.use (kXot3 w h) ((EX.2 s hKs).2.2.2.1 w h))) kXgood3 hSt hP hD hS (hl.1.trans hml.symm) dX3_slip_17 dX3_slip_20 dX3_slip_21 dX3_slip_23 dX3_slip_26 htab (Nat.le_of_ble_eq_true rfl) (Nat.le_of_ble_eq_true rfl) hlk kec3 kXe3)

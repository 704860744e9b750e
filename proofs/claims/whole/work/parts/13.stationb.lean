/-! the station: printed by my own program (gen.py) out of the listing -/
theorem hdX3_take : yX3_take.cls = RX3 ∧ yX3_take.cls ≠ "java/lang/invoke/MethodHandle" ∧ yX3_take.cls ≠ "java/lang/invoke/VarHandle" ∧ (parseMethodDescriptor yX3_take.desc).map (fun d => d.parameters.length) = some 1 := by decide +kernel
def fx3_take (L : (Nat → St)) (x1 : Int32) : Int32 × Int32 × ((Nat → St)) := (bnd (fx2_find 4 20 80 (stT (L 0) 0) x1) (fun v1 => (if v1 = (-1) then (3, 0, L) else (bnd (fxh_save L) (fun L3 => (bnd (va_up L3 0 (stP (L3 0) 0 (fx2_removeRow 4 20 80 (stT (L3 0) 0) v1))) (fun S4 => (bnd (va_up S4 0 (fx1_count (S4 0) 7)) (fun L5 => (0, fx2_get 4 20 80 (stT (L3 0) 0) v1 1, L5))))))))))
def sx3_take (L : (Nat → St)) (x1 : Int32) : Prop := (sx2_find 4 20 80 (stT (L 0) 0) x1 ∧ (bnd (fx2_find 4 20 80 (stT (L 0) 0) x1) (fun v1 => (if v1 = (-1) then True else (sxh_save L ∧ (bnd (fxh_save L) (fun L3 => sx2_removeRow 4 20 80 (stT (L3 0) 0) v1)))))))
set_option maxHeartbeats 4000000 in
set_option maxRecDepth 100000 in
theorem cx3_take {l : Launch} {D : va_G} {cI cB cS cJ : ClassId} {K : State → Prop} (EX : kEX D cI cB cS cJ K) (hfl : l.stackTraces = false) (aL : Nat → Nat → Nat) (L : (Nat → St)) (x1 : Int32) (hF : sx3_take L x1) : kX l D K yX3_take wsX3_take 6 165 [.ref (aL 7 0), .int x1] (lsW cI cB cS aL L) ((fx3_take L x1).1) ((fx3_take L x1).2.1) (lsW cI cB cS aL ((fx3_take L x1).2.2)) := by
  have E := EX.1
  refine kX_of (own := RX3) (cc := cX3_take) (maxL := 4) (tys := kty cI cB cS cJ) (fun U h => (E.2 U h).1) (by decide) rfl rfl (Nat.le_of_ble_eq_true rfl) ?_
  intro p e s m below meth c A ls hx hb hr hml hts hown hlk hKs hK hP hD hA hS hl hSt htab
  have hl : lv_has ls 4 [(0, .ref (aL 7 0)), (1, .int x1)] := hl
  have hX : CallFix p m c cX3_take 4 s _ wsX3_take RX3 := ⟨hx, hb, hml, hown, hts⟩
  have hinX3 : ∀ w ∈ wsX30, w ∈ wsX3_take := fun w h => List.mem_cons_of_mem _ (List.mem_append_left _ (List.mem_append_left _ (List.mem_append_left _ (List.mem_append_left _ (List.mem_append_right _ h)))))
  have hinX1 : ∀ w ∈ wsX10, w ∈ wsX3_take := fun w h => List.mem_cons_of_mem _ (List.mem_append_left _ (List.mem_append_left _ (List.mem_append_left _ (List.mem_append_right _ h))))
  have q1 := hts (.classLink RX3 129 "java/util/NoSuchElementException") (List.mem_of_getElem? (i := 1) rfl)
  have q2 := hts (.initialized "java/util/NoSuchElementException") (List.mem_of_getElem? (i := 2) rfl)
  have q3 := hts (.fieldLink RX3 10 "LabelStation" "state" "LLabelStation$State;") (List.mem_of_getElem? (i := 3) rfl)
  have q4 := hts (.fieldLink RX3 22 "LabelStation" "history" "LLabelStation$History;") (List.mem_of_getElem? (i := 4) rfl)
  generalize hR : fx3_take L x1 = R
  rw [fx3_take] at hR
  rw [sx3_take] at hF
  refine lv_aload_n hx hb dX3_take_0 rfl (lv_at hl 0 rfl) ?_
  refine va_get (D := D) (ci := 3) (v := .ref (aL 0 0)) (C := RX3) (T := TX3) (N := 5) hx hb hts hinX3 hown hK hP 0 rfl rfl 0 (by decide) q3 (fun _ h9 => h9) rfl dX3_take_1 ?_
  refine va_getN (D := D) (ci := 1) (v := .ref (aL 0 4)) (C := RX1) (T := TX1) (N := 16) hx hb hts hinX1 hown hK hP 15 rfl rfl 3 (by decide) (va_Nw.use rfl ((E.2 s hKs).2.1)) (fun _ h9 => h9) rfl dX3_take_4 ?_
  refine lv_iload_n hx hb dX3_take_7 rfl (lv_at hl 1 rfl) ?_
  obtain ⟨hs8, hF⟩ := hF
  refine kcI (ci := 2) (q0 := 0) (As := [.int x1]) (rest := []) E.1 (cx2_find E (aL 0 4) (aL 0 5) 4 20 80 (by decide) (stT (L 0) 0) x1 hs8) hX (cwV 1 hts gX3_take_X2_find rfl rfl rfl hdX2_find ⟨Nat.le_of_ble_eq_true rfl, Nat.le_of_ble_eq_true rfl⟩) hKs hK hP hD hS hA _ _ (ls_tb0 cI cB cS aL L) (ls_tb0 cI cB cS aL L).symm rfl rfl rfl rfl hl.1 (Nat.le_of_ble_eq_true rfl) dX3_take_8 ⟨Nat.zero_le _, Nat.zero_le _⟩ (fun H locs hP hD hS => ?_)
  generalize ev1 : fx2_find 4 20 80 (stT (L 0) 0) x1 = v1 at hR hF ⊢
  replace hR := bnd_e hR
  replace hF := bnd_p hF
  refine lv_istore_n (lv' := [(2, .int v1), (0, .ref (aL 7 0)), (1, .int x1)]) hx hb dX3_take_11 rfl hl (by decide) rfl (fun ls hl => ?_)
  refine lv_iload_n hx hb dX3_take_12 rfl (lv_at hl 0 rfl) ?_
  refine lv_iconst (v := (-1)) hx hb dX3_take_13 (by decide) ?_
  refine lv_icmp_ne (tgt := 27) hx hb dX3_take_14 (by decide) (fun c2 => ?_) (fun c2 => ?_)
  · rw [if_neg c2] at hR hF
    refine lv_aload_n hx hb dX3_take_27 rfl (lv_at hl 1 rfl) ?_
    refine va_get (D := D) (ci := 3) (v := .ref (aL 7 1)) (C := RX3) (T := TX3) (N := 5) hx hb hts hinX3 hown hK hP 0 rfl rfl 2 (by decide) q4 (fun _ h9 => h9) rfl dX3_take_28 ?_
    refine lv_aload_n hx hb dX3_take_31 rfl (lv_at hl 1 rfl) ?_
    refine va_get (D := D) (ci := 3) (v := .ref (aL 0 0)) (C := RX3) (T := TX3) (N := 5) hx hb hts hinX3 hown hK hP 0 rfl rfl 0 (by decide) q3 (fun _ h9 => h9) rfl dX3_take_32 ?_
    obtain ⟨hs7, hF⟩ := hF
    refine kcV (ci := 0) (q0 := 14) (As := [.ref (aL 0 0)]) (rest := []) E.1 (cx0_save E aL L (hjn L) (hix_lt hs7.1) (hix_at hs7.1) hs7.2) hX (cwV 1 hts gX3_take_X0_save rfl rfl rfl hdX0_save ⟨Nat.le_of_ble_eq_true rfl, Nat.le_of_ble_eq_true rfl⟩) hKs hK hP hD hS hA _ _ (ls_hs cI cB cS aL L) (lsh_save cI cB cS aL L hs7.1) rfl rfl rfl rfl hl.1 (Nat.le_of_ble_eq_true rfl) dX3_take_35 ⟨Nat.zero_le _, Nat.zero_le _⟩ (fun H locs hP hD hS => ?_)
    have hP : va_P D vwCl (lsW cI cB cS aL (fxh_save L)) H := hP
    have hD : va_D A (lsW cI cB cS aL (fxh_save L)) := hD
    obtain ⟨L3, hR, hF, hP, hD⟩ := kgenF (P := fun X9 => va_P D vwCl (lsW cI cB cS aL X9) H ∧ va_D A (lsW cI cB cS aL X9)) hR hF ⟨hP, hD⟩
    refine lv_aload_n hx hb dX3_take_38 rfl (lv_at hl 1 rfl) ?_
    refine va_get (D := D) (ci := 3) (v := .ref (aL 0 0)) (C := RX3) (T := TX3) (N := 5) hx hb hts hinX3 hown hK hP 0 rfl rfl 0 (by decide) q3 (fun _ h9 => h9) rfl dX3_take_39 ?_
    refine va_getN (D := D) (ci := 1) (v := .ref (aL 0 4)) (C := RX1) (T := TX1) (N := 16) hx hb hts hinX1 hown hK hP 15 rfl rfl 3 (by decide) (va_Nw.use rfl ((E.2 s hKs).2.1)) (fun _ h9 => h9) rfl dX3_take_42 ?_
    refine lv_iload_n hx hb dX3_take_45 rfl (lv_at hl 0 rfl) ?_
    refine lv_iconst (v := 1) hx hb dX3_take_46 (by decide) ?_
    refine kcI (ci := 2) (q0 := 0) (As := [.int v1, .int 1]) (rest := []) E.1 (cx2_get E (aL 0 4) (aL 0 5) 4 20 80 (by decide) (stT (L3 0) 0) v1 1) hX (cwV 2 hts gX3_take_X2_get rfl rfl rfl hdX2_get ⟨Nat.le_of_ble_eq_true rfl, Nat.le_of_ble_eq_true rfl⟩) hKs hK hP hD hS hA _ _ (ls_tb0 cI cB cS aL L3) (ls_tb0 cI cB cS aL L3).symm rfl rfl rfl rfl hl.1 (Nat.le_of_ble_eq_true rfl) dX3_take_47 ⟨Nat.zero_le _, Nat.zero_le _⟩ (fun H locs hP hD hS => ?_)
    refine lv_istore_n (lv' := [(3, .int (fx2_get 4 20 80 (stT (L3 0) 0) v1 1)), (2, .int v1), (0, .ref (aL 7 0)), (1, .int x1)]) hx hb dX3_take_50 rfl hl (by decide) rfl (fun ls hl => ?_)
    refine lv_aload_n hx hb dX3_take_51 rfl (lv_at hl 2 rfl) ?_
    refine va_get (D := D) (ci := 3) (v := .ref (aL 0 0)) (C := RX3) (T := TX3) (N := 5) hx hb hts hinX3 hown hK hP 0 rfl rfl 0 (by decide) q3 (fun _ h9 => h9) rfl dX3_take_52 ?_
    refine va_getN (D := D) (ci := 1) (v := .ref (aL 0 4)) (C := RX1) (T := TX1) (N := 16) hx hb hts hinX1 hown hK hP 15 rfl rfl 3 (by decide) (va_Nw.use rfl ((E.2 s hKs).2.1)) (fun _ h9 => h9) rfl dX3_take_55 ?_
    refine lv_iload_n hx hb dX3_take_58 rfl (lv_at hl 1 rfl) ?_
    have hs6 := hF
    refine kcV (ci := 2) (q0 := 0) (As := [.int v1]) (rest := []) E.1 (cx2_removeRow E (aL 0 4) (aL 0 5) 4 20 80 (by decide) (stT (L3 0) 0) v1 hs6) hX (cwV 1 hts gX3_take_X2_removeRow rfl rfl rfl hdX2_removeRow ⟨Nat.le_of_ble_eq_true rfl, Nat.le_of_ble_eq_true rfl⟩) hKs hK hP hD hS hA _ _ (ls_tb0 cI cB cS aL L3) (ls_tb0' cI cB cS aL L3 _) rfl rfl rfl rfl hl.1 (Nat.le_of_ble_eq_true rfl) dX3_take_59 ⟨Nat.zero_le _, Nat.zero_le _⟩ (fun H locs hP hD hS => ?_)
    have hP : va_P D vwCl (lsW cI cB cS aL (va_up L3 0 (stP (L3 0) 0 (fx2_removeRow 4 20 80 (stT (L3 0) 0) v1)))) H := hP
    have hD : va_D A (lsW cI cB cS aL (va_up L3 0 (stP (L3 0) 0 (fx2_removeRow 4 20 80 (stT (L3 0) 0) v1)))) := hD
    obtain ⟨S4, hR, hP, hD⟩ := kgen (P := fun X9 => va_P D vwCl (lsW cI cB cS aL X9) H ∧ va_D A (lsW cI cB cS aL X9)) hR ⟨hP, hD⟩
    refine lv_aload_n hx hb dX3_take_62 rfl (lv_at hl 2 rfl) ?_
    refine va_get (D := D) (ci := 3) (v := .ref (aL 0 0)) (C := RX3) (T := TX3) (N := 5) hx hb hts hinX3 hown hK hP 0 rfl rfl 0 (by decide) q3 (fun _ h9 => h9) rfl dX3_take_63 ?_
    refine lv_bipush (v := 7) hx hb dX3_take_66 (by decide) ?_
    refine kcV (ci := 1) (q0 := 0) (As := [.int 7]) (rest := []) E.1 (cx1_count E (aL 0) (S4 0) 7) hX (cwV 1 hts gX3_take_X1_count rfl rfl rfl hdX1_count ⟨Nat.le_of_ble_eq_true rfl, Nat.le_of_ble_eq_true rfl⟩) hKs hK hP hD hS hA _ _ (ls_st0 cI cB cS aL S4) (ls_st0' cI cB cS aL S4 _) rfl rfl rfl rfl hl.1 (Nat.le_of_ble_eq_true rfl) dX3_take_68 ⟨Nat.zero_le _, Nat.zero_le _⟩ (fun H locs hP hD hS => ?_)
    have hP : va_P D vwCl (lsW cI cB cS aL (va_up S4 0 (fx1_count (S4 0) 7))) H := hP
    have hD : va_D A (lsW cI cB cS aL (va_up S4 0 (fx1_count (S4 0) 7))) := hD
    obtain ⟨L5, hR, hP, hD⟩ := kgen (P := fun X9 => va_P D vwCl (lsW cI cB cS aL X9) H ∧ va_D A (lsW cI cB cS aL X9)) hR ⟨hP, hD⟩
    refine lv_iload_n hx hb dX3_take_71 rfl (lv_at hl 0 rfl) ?_
    subst hR
    exact krX hx hb hr hlk hP hD hS dX3_take_72 rfl rfl rfl
  · rw [if_pos c2] at hR hF
    obtain ⟨sa, hsa⟩ := (EX.2 s hKs).1.2.2.2.2.2.2.2.2.2.2.1
    exact (by subst hR; exact kthrow3 hx hb hfl hown kXfit3 q1 q2 hsa (vx_hat (fun w h => hts w (List.mem_cons_of_mem _ (List.mem_append_right _ h))) (fun _ h => h) (fun w h => va_Nw.use (kXot3 w h) ((EX.2 s hKs).2.2.2.1 w h))) kXgood3 hSt hP hD hS (hl.1.trans hml.symm) dX3_take_17 dX3_take_20 dX3_take_21 dX3_take_23 dX3_take_26 htab (Nat.le_of_ble_eq_true rfl) (Nat.le_of_ble_eq_true rfl) hlk kec3 kXe3)

theorem hdX3_run : yX3_run.cls = RX3 ∧ yX3_run.cls ≠ "java/lang/invoke/MethodHandle" ∧ yX3_run.cls ≠ "java/lang/invoke/VarHandle" ∧ (parseMethodDescriptor yX3_run.desc).map (fun d => d.parameters.length) = some 1 := by decide +kernel
def fx3_run_L34 : Nat → Int32 → Int32 → (Nat → St) → Int32 × Int32 × ((Nat → St))
  | 0, _, _, Ly => (0, 0, Ly)
  | n34 + 1, y1, y2, Ly => (if y1 ≤ y2 then (0, (Ly 0) 3 0, Ly) else (bnd (va_up Ly 0 (fx1_passTick (Ly 0))) (fun L35002 => fx3_run_L34 n34 y1 (y2 + 1) L35002)))
def sx3_run_L34 : Nat → Int32 → Int32 → (Nat → St) → Prop
  | 0, _, _, _ => False
  | n34 + 1, y1, y2, Ly => (if y1 ≤ y2 then True else (sx1_passTick (Ly 0) ∧ (bnd (va_up Ly 0 (fx1_passTick (Ly 0))) (fun L35002 => sx3_run_L34 n34 y1 (y2 + 1) L35002))))
def fx3_run (L : (Nat → St)) (x1 : Int32) : Int32 × Int32 × ((Nat → St)) := (if x1 < 0 then (1, 0, L) else (if x1 ≤ 1000 then (bnd (fxh_save L) (fun L3 => fx3_run_L34 kfu x1 0 L3)) else (1, 0, L)))
def sx3_run (L : (Nat → St)) (x1 : Int32) : Prop := (if x1 < 0 then True else (if x1 ≤ 1000 then (sxh_save L ∧ (bnd (fxh_save L) (fun L3 => sx3_run_L34 kfu x1 0 L3))) else True))
set_option maxHeartbeats 4000000 in
set_option maxRecDepth 100000 in
theorem cx3_run {l : Launch} {D : va_G} {cI cB cS cJ : ClassId} {K : State → Prop} (EX : kEX D cI cB cS cJ K) (hfl : l.stackTraces = false) (aL : Nat → Nat → Nat) (L : (Nat → St)) (x1 : Int32) (hF : sx3_run L x1) : kX l D K yX3_run wsX3_run 6 165 [.ref (aL 7 0), .int x1] (lsW cI cB cS aL L) ((fx3_run L x1).1) ((fx3_run L x1).2.1) (lsW cI cB cS aL ((fx3_run L x1).2.2)) := by
  have E := EX.1
  refine kX_of (own := RX3) (cc := cX3_run) (maxL := 3) (tys := kty cI cB cS cJ) (fun U h => (E.2 U h).1) (by decide) rfl rfl (Nat.le_of_ble_eq_true rfl) ?_
  intro p e s m below meth c A ls hx hb hr hml hts hown hlk hKs hK hP hD hA hS hl hSt htab
  have hl : lv_has ls 3 [(0, .ref (aL 7 0)), (1, .int x1)] := hl
  have hX : CallFix p m c cX3_run 3 s _ wsX3_run RX3 := ⟨hx, hb, hml, hown, hts⟩
  have hinX1 : ∀ w ∈ wsX10, w ∈ wsX3_run := fun w h => List.mem_cons_of_mem _ (List.mem_append_left _ (List.mem_append_left _ (List.mem_append_left _ (List.mem_append_right _ h))))
  have hinX3 : ∀ w ∈ wsX30, w ∈ wsX3_run := fun w h => List.mem_cons_of_mem _ (List.mem_append_left _ (List.mem_append_left _ (List.mem_append_left _ (List.mem_append_left _ (List.mem_append_right _ h)))))
  have q1 := hts (.classLink RX3 34 "java/lang/IllegalArgumentException") (List.mem_of_getElem? (i := 1) rfl)
  have q2 := hts (.initialized "java/lang/IllegalArgumentException") (List.mem_of_getElem? (i := 2) rfl)
  have q3 := hts (.fieldLink RX3 22 "LabelStation" "history" "LLabelStation$History;") (List.mem_of_getElem? (i := 3) rfl)
  have q4 := hts (.fieldLink RX3 10 "LabelStation" "state" "LLabelStation$State;") (List.mem_of_getElem? (i := 4) rfl)
  generalize hR : fx3_run L x1 = R
  rw [fx3_run] at hR
  rw [sx3_run] at hF
  refine lv_iload_n hx hb dX3_run_0 rfl (lv_at hl 1 rfl) ?_
  refine lv_if_lt (tgt := 11) hx hb dX3_run_1 (by decide) (fun c1 => ?_) (fun c1 => ?_)
  · rw [if_pos c1] at hR hF
    obtain ⟨sa, hsa⟩ := (EX.2 s hKs).1.2.2.2.2.2.2.2.2.2.2.2.2.2.1
    exact (by subst hR; exact kthrow hx hb hfl hown kXfit1 q1 q2 hsa (vx_hat (fun w h => hts w (List.mem_cons_of_mem _ (List.mem_append_right _ h))) (fun _ h => h) (fun w h => va_Nw.use (kXot1 w h) ((EX.2 s hKs).2.1 w h))) kXgood1 hSt hP hD hS (hl.1.trans hml.symm) dX3_run_11 dX3_run_14 dX3_run_15 dX3_run_17 dX3_run_20 htab (Nat.le_of_ble_eq_true rfl) (Nat.le_of_ble_eq_true rfl) hlk kec1 kXe1)
  · rw [if_neg c1] at hR hF
    refine lv_iload_n hx hb dX3_run_4 rfl (lv_at hl 1 rfl) ?_
    refine lv_sipush (v := 1000) hx hb dX3_run_5 (by decide) ?_
    refine lv_icmp_le (tgt := 21) hx hb dX3_run_8 (by decide) (fun c2 => ?_) (fun c2 => ?_)
    · rw [if_pos c2] at hR hF
      refine lv_aload_n hx hb dX3_run_21 rfl (lv_at hl 0 rfl) ?_
      refine va_get (D := D) (ci := 3) (v := .ref (aL 7 1)) (C := RX3) (T := TX3) (N := 5) hx hb hts hinX3 hown hK hP 0 rfl rfl 2 (by decide) q3 (fun _ h9 => h9) rfl dX3_run_22 ?_
      refine lv_aload_n hx hb dX3_run_25 rfl (lv_at hl 0 rfl) ?_
      refine va_get (D := D) (ci := 3) (v := .ref (aL 0 0)) (C := RX3) (T := TX3) (N := 5) hx hb hts hinX3 hown hK hP 0 rfl rfl 0 (by decide) q4 (fun _ h9 => h9) rfl dX3_run_26 ?_
      obtain ⟨hs4, hF⟩ := hF
      refine kcV (ci := 0) (q0 := 14) (As := [.ref (aL 0 0)]) (rest := []) E.1 (cx0_save E aL L (hjn L) (hix_lt hs4.1) (hix_at hs4.1) hs4.2) hX (cwV 1 hts gX3_run_X0_save rfl rfl rfl hdX0_save ⟨Nat.le_of_ble_eq_true rfl, Nat.le_of_ble_eq_true rfl⟩) hKs hK hP hD hS hA _ _ (ls_hs cI cB cS aL L) (lsh_save cI cB cS aL L hs4.1) rfl rfl rfl rfl hl.1 (Nat.le_of_ble_eq_true rfl) dX3_run_29 ⟨Nat.zero_le _, Nat.zero_le _⟩ (fun H locs hP hD hS => ?_)
      have hP : va_P D vwCl (lsW cI cB cS aL (fxh_save L)) H := hP
      have hD : va_D A (lsW cI cB cS aL (fxh_save L)) := hD
      obtain ⟨L3, hR, hF, hP, hD⟩ := kgenF (P := fun X9 => va_P D vwCl (lsW cI cB cS aL X9) H ∧ va_D A (lsW cI cB cS aL X9)) hR hF ⟨hP, hD⟩
      refine lv_iconst (v := 0) hx hb dX3_run_32 (by decide) ?_
      refine lv_istore_n (lv' := [(2, .int 0), (0, .ref (aL 7 0)), (1, .int x1)]) hx hb dX3_run_33 rfl hl (by decide) rfl (fun ls hl => ?_)
      have loop34 : ∀ (n34 : Nat) (y1 : Int32) (y2 : Int32) (Ly : (Nat → St)) (H : Heap) (locs : List Loc) (ls : Array Slot), fx3_run_L34 n34 y1 y2 Ly = R → sx3_run_L34 n34 y1 y2 Ly → va_P D vwCl (lsW cI cB cS aL Ly) H → va_D A (lsW cI cB cS aL Ly) → va_S A s.heap H locs → lv_has ls 3 [(1, .int y1), (2, .int y2), (0, .ref (aL 7 0))] → W p l e (kRmX 6 165) s m ([.ref (aL 7 0), .int x1] : List Value).toArray below meth c H locs 0 0 (kQX D below R.1 R.2.1 (lsW cI cB cS aL R.2.2) (lsW cI cB cS aL L) A ([.ref (aL 7 0), .int x1] : List Value).toArray s) (F0 m 34 ls []) := by
        intro n34
        induction n34 with
        | zero => intro y1 y2 Ly H locs ls hR hF; exact hF.elim
        | succ n34 ih34 =>
          intro y1 y2 Ly H locs ls hR hF hP hD hS hl
          rw [fx3_run_L34] at hR
          rw [sx3_run_L34] at hF
          refine lv_iload_n hx hb dX3_run_34 rfl (lv_at hl 1 rfl) ?_
          refine lv_iload_n hx hb dX3_run_35 rfl (lv_at hl 0 rfl) ?_
          refine lv_icmp_ge (tgt := 52) hx hb dX3_run_36 (by decide) (fun c35001 => ?_) (fun c35001 => ?_)
          · rw [if_pos c35001] at hR hF
            refine lv_aload_n hx hb dX3_run_52 rfl (lv_at hl 2 rfl) ?_
            refine va_get (D := D) (ci := 3) (v := .ref (aL 0 0)) (C := RX3) (T := TX3) (N := 5) hx hb hts hinX3 hown hK hP 0 rfl rfl 0 (by decide) q4 (fun _ h9 => h9) rfl dX3_run_53 ?_
            refine va_getN (D := D) (ci := 1) (v := .int ((Ly 0) 3 0)) (C := RX1) (T := TX1) (N := 16) hx hb hts hinX1 hown hK hP 15 rfl rfl 8 (by decide) (va_Nw.use rfl ((E.2 s hKs).2.2.2.2.2.2.1)) (fun _ h9 => h9) rfl dX3_run_56 ?_
            subst hR
            exact krX hx hb hr hlk hP hD hS dX3_run_59 rfl rfl rfl
          · rw [if_neg c35001] at hR hF
            refine lv_aload_n hx hb dX3_run_39 rfl (lv_at hl 2 rfl) ?_
            refine va_get (D := D) (ci := 3) (v := .ref (aL 0 0)) (C := RX3) (T := TX3) (N := 5) hx hb hts hinX3 hown hK hP 0 rfl rfl 0 (by decide) q4 (fun _ h9 => h9) rfl dX3_run_40 ?_
            obtain ⟨hs35003, hF⟩ := hF
            refine kcV (ci := 1) (q0 := 0) (As := []) (rest := []) E.1 (cx1_passTick E (aL 0) (Ly 0) hs35003) hX (cwV 0 hts gX3_run_X1_passTick rfl rfl rfl hdX1_passTick ⟨Nat.le_of_ble_eq_true rfl, Nat.le_of_ble_eq_true rfl⟩) hKs hK hP hD hS hA _ _ (ls_st0 cI cB cS aL Ly) (ls_st0' cI cB cS aL Ly _) rfl rfl rfl rfl hl.1 (Nat.le_of_ble_eq_true rfl) dX3_run_43 ⟨Nat.zero_le _, Nat.zero_le _⟩ (fun H locs hP hD hS => ?_)
            have hP : va_P D vwCl (lsW cI cB cS aL (va_up Ly 0 (fx1_passTick (Ly 0)))) H := hP
            have hD : va_D A (lsW cI cB cS aL (va_up Ly 0 (fx1_passTick (Ly 0)))) := hD
            obtain ⟨L35002, hR, hF, hP, hD⟩ := kgenF (P := fun X9 => va_P D vwCl (lsW cI cB cS aL X9) H ∧ va_D A (lsW cI cB cS aL X9)) hR hF ⟨hP, hD⟩
            refine lv_iinc (v := y2 + 1) (lv' := [(2, .int (y2 + 1)), (1, .int y1), (0, .ref (aL 7 0))]) hx hb dX3_run_46 hl (k := 1) rfl rfl (by decide) rfl (fun ls hl => ?_)
            refine lv_goto (tgt := 34) hx hb dX3_run_49 (by decide) ?_
            exact ih34 y1 (y2 + 1) L35002 _ _ ls hR hF hP hD hS (lv_sub hl [1, 0, 2] rfl)
      exact loop34 kfu x1 0 L3 _ _ ls hR hF hP hD hS (lv_sub hl [2, 0, 1] rfl)
    · rw [if_neg c2] at hR hF
      obtain ⟨sa, hsa⟩ := (EX.2 s hKs).1.2.2.2.2.2.2.2.2.2.2.2.2.2.1
      exact (by subst hR; exact kthrow hx hb hfl hown kXfit1 q1 q2 hsa (vx_hat (fun w h => hts w (List.mem_cons_of_mem _ (List.mem_append_right _ h))) (fun _ h => h) (fun w h => va_Nw.use (kXot1 w h) ((EX.2 s hKs).2.1 w h))) kXgood1 hSt hP hD hS (hl.1.trans hml.symm) dX3_run_11 dX3_run_14 dX3_run_15 dX3_run_17 dX3_run_20 htab (Nat.le_of_ble_eq_true rfl) (Nat.le_of_ble_eq_true rfl) hlk kec1 kXe1)

theorem hdX3_status : yX3_status.cls = RX3 ∧ yX3_status.cls ≠ "java/lang/invoke/MethodHandle" ∧ yX3_status.cls ≠ "java/lang/invoke/VarHandle" ∧ (parseMethodDescriptor yX3_status.desc).map (fun d => d.parameters.length) = some 1 := by decide +kernel
def fx3_status (L : (Nat → St)) (x1 : Int32) : Int32 × Int32 := (if x1 < 0 then (1, 0) else (if x1 ≤ 7 then (bnd (fx1_statusOf (L 0) x1) (fun v3 => (0, v3))) else (1, 0)))
set_option maxHeartbeats 4000000 in
set_option maxRecDepth 100000 in
theorem cx3_status {l : Launch} {D : va_G} {cI cB cS cJ : ClassId} {K : State → Prop} (EX : kEX D cI cB cS cJ K) (hfl : l.stackTraces = false) (aL : Nat → Nat → Nat) (L : (Nat → St)) (x1 : Int32) : kX l D K yX3_status wsX3_status 6 82 [.ref (aL 7 0), .int x1] (lsW cI cB cS aL L) ((fx3_status L x1).1) ((fx3_status L x1).2) (lsW cI cB cS aL L) := by
  have E := EX.1
  refine kX_of (own := RX3) (cc := cX3_status) (maxL := 2) (tys := kty cI cB cS cJ) (fun U h => (E.2 U h).1) (by decide) rfl rfl (Nat.le_of_ble_eq_true rfl) ?_
  intro p e s m below meth c A ls hx hb hr hml hts hown hlk hKs hK hP hD hA hS hl hSt htab
  have hl : lv_has ls 2 [(0, .ref (aL 7 0)), (1, .int x1)] := hl
  have hX : CallFix p m c cX3_status 2 s _ wsX3_status RX3 := ⟨hx, hb, hml, hown, hts⟩
  have hinX3 : ∀ w ∈ wsX30, w ∈ wsX3_status := fun w h => List.mem_cons_of_mem _ (List.mem_append_left _ (List.mem_append_left _ (List.mem_append_left _ (List.mem_append_right _ h))))
  have q1 := hts (.classLink RX3 34 "java/lang/IllegalArgumentException") (List.mem_of_getElem? (i := 1) rfl)
  have q2 := hts (.initialized "java/lang/IllegalArgumentException") (List.mem_of_getElem? (i := 2) rfl)
  have q3 := hts (.fieldLink RX3 10 "LabelStation" "state" "LLabelStation$State;") (List.mem_of_getElem? (i := 3) rfl)
  generalize hR : fx3_status L x1 = R
  rw [fx3_status] at hR
  refine lv_iload_n hx hb dX3_status_0 rfl (lv_at hl 1 rfl) ?_
  refine lv_if_lt (tgt := 10) hx hb dX3_status_1 (by decide) (fun c1 => ?_) (fun c1 => ?_)
  · rw [if_pos c1] at hR
    obtain ⟨sa, hsa⟩ := (EX.2 s hKs).1.2.2.2.2.2.2.2.2.2.2.2.2.2.2.1
    exact (by subst hR; exact kthrow hx hb hfl hown kXfit1 q1 q2 hsa (vx_hat (fun w h => hts w (List.mem_cons_of_mem _ (List.mem_append_right _ h))) (fun _ h => h) (fun w h => va_Nw.use (kXot1 w h) ((EX.2 s hKs).2.1 w h))) kXgood1 hSt hP hD hS (hl.1.trans hml.symm) dX3_status_10 dX3_status_13 dX3_status_14 dX3_status_16 dX3_status_19 htab (Nat.le_of_ble_eq_true rfl) (Nat.le_of_ble_eq_true rfl) hlk kec1 kXe1)
  · rw [if_neg c1] at hR
    refine lv_iload_n hx hb dX3_status_4 rfl (lv_at hl 1 rfl) ?_
    refine lv_bipush (v := 7) hx hb dX3_status_5 (by decide) ?_
    refine lv_icmp_le (tgt := 20) hx hb dX3_status_7 (by decide) (fun c2 => ?_) (fun c2 => ?_)
    · rw [if_pos c2] at hR
      refine lv_aload_n hx hb dX3_status_20 rfl (lv_at hl 0 rfl) ?_
      refine va_get (D := D) (ci := 3) (v := .ref (aL 0 0)) (C := RX3) (T := TX3) (N := 5) hx hb hts hinX3 hown hK hP 0 rfl rfl 0 (by decide) q3 (fun _ h9 => h9) rfl dX3_status_21 ?_
      refine lv_iload_n hx hb dX3_status_24 rfl (lv_at hl 1 rfl) ?_
      refine kcI (ci := 1) (q0 := 0) (As := [.int x1]) (rest := []) E.1 (cx1_statusOf E (aL 0) (L 0) x1) hX (cwV 1 hts gX3_status_X1_statusOf rfl rfl rfl hdX1_statusOf ⟨Nat.le_of_ble_eq_true rfl, Nat.le_of_ble_eq_true rfl⟩) hKs hK hP hD hS hA _ _ (ls_st0 cI cB cS aL L) (ls_st0 cI cB cS aL L).symm rfl rfl rfl rfl hl.1 (Nat.le_of_ble_eq_true rfl) dX3_status_25 ⟨Nat.zero_le _, Nat.zero_le _⟩ (fun H locs hP hD hS => ?_)
      generalize ev3 : fx1_statusOf (L 0) x1 = v3 at hR ⊢
      replace hR := bnd_e hR
      subst hR
      exact krX hx hb hr hlk hP hD hS dX3_status_28 rfl rfl rfl
    · rw [if_neg c2] at hR
      obtain ⟨sa, hsa⟩ := (EX.2 s hKs).1.2.2.2.2.2.2.2.2.2.2.2.2.2.2.1
      exact (by subst hR; exact kthrow hx hb hfl hown kXfit1 q1 q2 hsa (vx_hat (fun w h => hts w (List.mem_cons_of_mem _ (List.mem_append_right _ h))) (fun _ h => h) (fun w h => va_Nw.use (kXot1 w h) ((EX.2 s hKs).2.1 w h))) kXgood1 hSt hP hD hS (hl.1.trans hml.symm) dX3_status_10 dX3_status_13 dX3_status_14 dX3_status_16 dX3_status_19 htab (Nat.le_of_ble_eq_true rfl) (Nat.le_of_ble_eq_true rfl) hlk kec1 kXe1)

theorem hdX3_item : yX3_item.cls = RX3 ∧ yX3_item.cls ≠ "java/lang/invoke/MethodHandle" ∧ yX3_item.cls ≠ "java/lang/invoke/VarHandle" ∧ (parseMethodDescriptor yX3_item.desc).map (fun d => d.parameters.length) = some 2 := by decide +kernel
def fx3_item (L : (Nat → St)) (x1 : Int32) (x2 : Int32) : Int32 × Int32 := (bnd (fx2_find 4 20 80 (stT (L 0) 0) x1) (fun v1 => (if v1 = (-1) then (3, 0) else (if x2 < 0 then (1, 0) else (if x2 ≤ 2 then (0, fx2_get 4 20 80 (stT (L 0) 0) v1 (1 + x2)) else (1, 0))))))
def sx3_item (L : (Nat → St)) (x1 : Int32) (x2 : Int32) : Prop := sx2_find 4 20 80 (stT (L 0) 0) x1
set_option maxHeartbeats 4000000 in
set_option maxRecDepth 100000 in
theorem cx3_item {l : Launch} {D : va_G} {cI cB cS cJ : ClassId} {K : State → Prop} (EX : kEX D cI cB cS cJ K) (hfl : l.stackTraces = false) (aL : Nat → Nat → Nat) (L : (Nat → St)) (x1 : Int32) (x2 : Int32) (hF : sx3_item L x1 x2) : kX l D K yX3_item wsX3_item 6 82 [.ref (aL 7 0), .int x1, .int x2] (lsW cI cB cS aL L) ((fx3_item L x1 x2).1) ((fx3_item L x1 x2).2) (lsW cI cB cS aL L) := by
  have E := EX.1
  refine kX_of (own := RX3) (cc := cX3_item) (maxL := 4) (tys := kty cI cB cS cJ) (fun U h => (E.2 U h).1) (by decide) rfl rfl (Nat.le_of_ble_eq_true rfl) ?_
  intro p e s m below meth c A ls hx hb hr hml hts hown hlk hKs hK hP hD hA hS hl hSt htab
  have hl : lv_has ls 4 [(0, .ref (aL 7 0)), (1, .int x1), (2, .int x2)] := hl
  have hX : CallFix p m c cX3_item 4 s _ wsX3_item RX3 := ⟨hx, hb, hml, hown, hts⟩
  have hinX1 : ∀ w ∈ wsX10, w ∈ wsX3_item := fun w h => List.mem_cons_of_mem _ (List.mem_append_left _ (List.mem_append_left _ (List.mem_append_left _ (List.mem_append_right _ h))))
  have hinX3 : ∀ w ∈ wsX30, w ∈ wsX3_item := fun w h => List.mem_cons_of_mem _ (List.mem_append_left _ (List.mem_append_left _ (List.mem_append_left _ (List.mem_append_left _ (List.mem_append_right _ h)))))
  have q1 := hts (.classLink RX3 129 "java/util/NoSuchElementException") (List.mem_of_getElem? (i := 1) rfl)
  have q2 := hts (.initialized "java/util/NoSuchElementException") (List.mem_of_getElem? (i := 2) rfl)
  have q3 := hts (.classLink RX3 34 "java/lang/IllegalArgumentException") (List.mem_of_getElem? (i := 3) rfl)
  have q4 := hts (.initialized "java/lang/IllegalArgumentException") (List.mem_of_getElem? (i := 4) rfl)
  have q5 := hts (.fieldLink RX3 10 "LabelStation" "state" "LLabelStation$State;") (List.mem_of_getElem? (i := 5) rfl)
  generalize hR : fx3_item L x1 x2 = R
  rw [fx3_item] at hR
  rw [sx3_item] at hF
  refine lv_aload_n hx hb dX3_item_0 rfl (lv_at hl 0 rfl) ?_
  refine va_get (D := D) (ci := 3) (v := .ref (aL 0 0)) (C := RX3) (T := TX3) (N := 5) hx hb hts hinX3 hown hK hP 0 rfl rfl 0 (by decide) q5 (fun _ h9 => h9) rfl dX3_item_1 ?_
  refine va_getN (D := D) (ci := 1) (v := .ref (aL 0 4)) (C := RX1) (T := TX1) (N := 16) hx hb hts hinX1 hown hK hP 15 rfl rfl 3 (by decide) (va_Nw.use rfl ((E.2 s hKs).2.1)) (fun _ h9 => h9) rfl dX3_item_4 ?_
  refine lv_iload_n hx hb dX3_item_7 rfl (lv_at hl 1 rfl) ?_
  have hs5 := hF
  refine kcI (ci := 2) (q0 := 0) (As := [.int x1]) (rest := []) E.1 (cx2_find E (aL 0 4) (aL 0 5) 4 20 80 (by decide) (stT (L 0) 0) x1 hs5) hX (cwV 1 hts gX3_item_X2_find rfl rfl rfl hdX2_find ⟨Nat.le_of_ble_eq_true rfl, Nat.le_of_ble_eq_true rfl⟩) hKs hK hP hD hS hA _ _ (ls_tb0 cI cB cS aL L) (ls_tb0 cI cB cS aL L).symm rfl rfl rfl rfl hl.1 (Nat.le_of_ble_eq_true rfl) dX3_item_8 ⟨Nat.zero_le _, Nat.zero_le _⟩ (fun H locs hP hD hS => ?_)
  generalize ev1 : fx2_find 4 20 80 (stT (L 0) 0) x1 = v1 at hR ⊢
  replace hR := bnd_e hR
  refine lv_istore_n (lv' := [(3, .int v1), (0, .ref (aL 7 0)), (1, .int x1), (2, .int x2)]) hx hb dX3_item_11 rfl hl (by decide) rfl (fun ls hl => ?_)
  refine lv_iload_n hx hb dX3_item_12 rfl (lv_at hl 0 rfl) ?_
  refine lv_iconst (v := (-1)) hx hb dX3_item_13 (by decide) ?_
  refine lv_icmp_ne (tgt := 27) hx hb dX3_item_14 (by decide) (fun c2 => ?_) (fun c2 => ?_)
  · rw [if_neg c2] at hR
    refine lv_iload_n hx hb dX3_item_27 rfl (lv_at hl 3 rfl) ?_
    refine lv_if_lt (tgt := 36) hx hb dX3_item_28 (by decide) (fun c3 => ?_) (fun c3 => ?_)
    · rw [if_pos c3] at hR
      obtain ⟨sa, hsa⟩ := (EX.2 s hKs).1.2.2.2.2.2.2.2.2.2.2.2.2.2.2.2.1
      exact (by subst hR; exact kthrow hx hb hfl hown kXfit1 q3 q4 hsa (vx_hat (fun w h => hts w (List.mem_cons_of_mem _ (List.mem_append_right _ h))) (fun _ h => h) (fun w h => va_Nw.use (kXot1 w h) ((EX.2 s hKs).2.1 w h))) kXgood1 hSt hP hD hS (hl.1.trans hml.symm) dX3_item_36 dX3_item_39 dX3_item_40 dX3_item_42 dX3_item_45 htab (Nat.le_of_ble_eq_true rfl) (Nat.le_of_ble_eq_true rfl) hlk kec1 kXe1)
    · rw [if_neg c3] at hR
      refine lv_iload_n hx hb dX3_item_31 rfl (lv_at hl 3 rfl) ?_
      refine lv_iconst (v := 2) hx hb dX3_item_32 (by decide) ?_
      refine lv_icmp_le (tgt := 46) hx hb dX3_item_33 (by decide) (fun c4 => ?_) (fun c4 => ?_)
      · rw [if_pos c4] at hR
        refine lv_aload_n hx hb dX3_item_46 rfl (lv_at hl 1 rfl) ?_
        refine va_get (D := D) (ci := 3) (v := .ref (aL 0 0)) (C := RX3) (T := TX3) (N := 5) hx hb hts hinX3 hown hK hP 0 rfl rfl 0 (by decide) q5 (fun _ h9 => h9) rfl dX3_item_47 ?_
        refine va_getN (D := D) (ci := 1) (v := .ref (aL 0 4)) (C := RX1) (T := TX1) (N := 16) hx hb hts hinX1 hown hK hP 15 rfl rfl 3 (by decide) (va_Nw.use rfl ((E.2 s hKs).2.1)) (fun _ h9 => h9) rfl dX3_item_50 ?_
        refine lv_iload_n hx hb dX3_item_53 rfl (lv_at hl 0 rfl) ?_
        refine lv_iconst (v := 1) hx hb dX3_item_54 (by decide) ?_
        refine lv_iload_n hx hb dX3_item_55 rfl (lv_at hl 3 rfl) ?_
        refine lv_iadd hx hb dX3_item_56 ?_
        refine kcI (ci := 2) (q0 := 0) (As := [.int v1, .int (1 + x2)]) (rest := []) E.1 (cx2_get E (aL 0 4) (aL 0 5) 4 20 80 (by decide) (stT (L 0) 0) v1 (1 + x2)) hX (cwV 2 hts gX3_item_X2_get rfl rfl rfl hdX2_get ⟨Nat.le_of_ble_eq_true rfl, Nat.le_of_ble_eq_true rfl⟩) hKs hK hP hD hS hA _ _ (ls_tb0 cI cB cS aL L) (ls_tb0 cI cB cS aL L).symm rfl rfl rfl rfl hl.1 (Nat.le_of_ble_eq_true rfl) dX3_item_57 ⟨Nat.zero_le _, Nat.zero_le _⟩ (fun H locs hP hD hS => ?_)
        subst hR
        exact krX hx hb hr hlk hP hD hS dX3_item_60 rfl rfl rfl
      · rw [if_neg c4] at hR
        obtain ⟨sa, hsa⟩ := (EX.2 s hKs).1.2.2.2.2.2.2.2.2.2.2.2.2.2.2.2.1
        exact (by subst hR; exact kthrow hx hb hfl hown kXfit1 q3 q4 hsa (vx_hat (fun w h => hts w (List.mem_cons_of_mem _ (List.mem_append_right _ h))) (fun _ h => h) (fun w h => va_Nw.use (kXot1 w h) ((EX.2 s hKs).2.1 w h))) kXgood1 hSt hP hD hS (hl.1.trans hml.symm) dX3_item_36 dX3_item_39 dX3_item_40 dX3_item_42 dX3_item_45 htab (Nat.le_of_ble_eq_true rfl) (Nat.le_of_ble_eq_true rfl) hlk kec1 kXe1)
  · rw [if_pos c2] at hR
    obtain ⟨sa, hsa⟩ := (EX.2 s hKs).1.2.2.2.2.2.2.2.2.2.2.1
    exact (by subst hR; exact kthrow3 hx hb hfl hown kXfit3 q1 q2 hsa (vx_hat (fun w h => hts w (List.mem_cons_of_mem _ (List.mem_append_left _ (List.mem_append_right _ h)))) (fun _ h => h) (fun w h => va_Nw.use (kXot3 w h) ((EX.2 s hKs).2.2.2.1 w h))) kXgood3 hSt hP hD hS (hl.1.trans hml.symm) dX3_item_17 dX3_item_20 dX3_item_21 dX3_item_23 dX3_item_26 htab (Nat.le_of_ble_eq_true rfl) (Nat.le_of_ble_eq_true rfl) hlk kec3 kXe3)

theorem hdX3_record : yX3_record.cls = RX3 ∧ yX3_record.cls ≠ "java/lang/invoke/MethodHandle" ∧ yX3_record.cls ≠ "java/lang/invoke/VarHandle" ∧ (parseMethodDescriptor yX3_record.desc).map (fun d => d.parameters.length) = some 2 := by decide +kernel
def fx3_record (L : (Nat → St)) (x1 : Int32) (x2 : Int32) : Int32 × Int32 := (bnd (fx2_find 6 35 210 (stT (L 0) 1) x1) (fun v1 => (if v1 = (-1) then (3, 0) else (if x2 < 0 then (1, 0) else (if x2 ≤ 4 then (0, fx2_get 6 35 210 (stT (L 0) 1) v1 (1 + x2)) else (1, 0))))))
def sx3_record (L : (Nat → St)) (x1 : Int32) (x2 : Int32) : Prop := sx2_find 6 35 210 (stT (L 0) 1) x1
set_option maxHeartbeats 4000000 in
set_option maxRecDepth 100000 in
theorem cx3_record {l : Launch} {D : va_G} {cI cB cS cJ : ClassId} {K : State → Prop} (EX : kEX D cI cB cS cJ K) (hfl : l.stackTraces = false) (aL : Nat → Nat → Nat) (L : (Nat → St)) (x1 : Int32) (x2 : Int32) (hF : sx3_record L x1 x2) : kX l D K yX3_record wsX3_record 6 82 [.ref (aL 7 0), .int x1, .int x2] (lsW cI cB cS aL L) ((fx3_record L x1 x2).1) ((fx3_record L x1 x2).2) (lsW cI cB cS aL L) := by
  have E := EX.1
  refine kX_of (own := RX3) (cc := cX3_record) (maxL := 4) (tys := kty cI cB cS cJ) (fun U h => (E.2 U h).1) (by decide) rfl rfl (Nat.le_of_ble_eq_true rfl) ?_
  intro p e s m below meth c A ls hx hb hr hml hts hown hlk hKs hK hP hD hA hS hl hSt htab
  have hl : lv_has ls 4 [(0, .ref (aL 7 0)), (1, .int x1), (2, .int x2)] := hl
  have hX : CallFix p m c cX3_record 4 s _ wsX3_record RX3 := ⟨hx, hb, hml, hown, hts⟩
  have hinX1 : ∀ w ∈ wsX10, w ∈ wsX3_record := fun w h => List.mem_cons_of_mem _ (List.mem_append_left _ (List.mem_append_left _ (List.mem_append_left _ (List.mem_append_right _ h))))
  have hinX3 : ∀ w ∈ wsX30, w ∈ wsX3_record := fun w h => List.mem_cons_of_mem _ (List.mem_append_left _ (List.mem_append_left _ (List.mem_append_left _ (List.mem_append_left _ (List.mem_append_right _ h)))))
  have q1 := hts (.classLink RX3 129 "java/util/NoSuchElementException") (List.mem_of_getElem? (i := 1) rfl)
  have q2 := hts (.initialized "java/util/NoSuchElementException") (List.mem_of_getElem? (i := 2) rfl)
  have q3 := hts (.classLink RX3 34 "java/lang/IllegalArgumentException") (List.mem_of_getElem? (i := 3) rfl)
  have q4 := hts (.initialized "java/lang/IllegalArgumentException") (List.mem_of_getElem? (i := 4) rfl)
  have q5 := hts (.fieldLink RX3 10 "LabelStation" "state" "LLabelStation$State;") (List.mem_of_getElem? (i := 5) rfl)
  generalize hR : fx3_record L x1 x2 = R
  rw [fx3_record] at hR
  rw [sx3_record] at hF
  refine lv_aload_n hx hb dX3_record_0 rfl (lv_at hl 0 rfl) ?_
  refine va_get (D := D) (ci := 3) (v := .ref (aL 0 0)) (C := RX3) (T := TX3) (N := 5) hx hb hts hinX3 hown hK hP 0 rfl rfl 0 (by decide) q5 (fun _ h9 => h9) rfl dX3_record_1 ?_
  refine va_getN (D := D) (ci := 1) (v := .ref (aL 0 6)) (C := RX1) (T := TX1) (N := 16) hx hb hts hinX1 hown hK hP 15 rfl rfl 4 (by decide) (va_Nw.use rfl ((E.2 s hKs).2.2.1)) (fun _ h9 => h9) rfl dX3_record_4 ?_
  refine lv_iload_n hx hb dX3_record_7 rfl (lv_at hl 1 rfl) ?_
  have hs5 := hF
  refine kcI (ci := 2) (q0 := 0) (As := [.int x1]) (rest := []) E.1 (cx2_find E (aL 0 6) (aL 0 7) 6 35 210 (by decide) (stT (L 0) 1) x1 hs5) hX (cwV 1 hts gX3_record_X2_find rfl rfl rfl hdX2_find ⟨Nat.le_of_ble_eq_true rfl, Nat.le_of_ble_eq_true rfl⟩) hKs hK hP hD hS hA _ _ (ls_tb1 cI cB cS aL L) (ls_tb1 cI cB cS aL L).symm rfl rfl rfl rfl hl.1 (Nat.le_of_ble_eq_true rfl) dX3_record_8 ⟨Nat.zero_le _, Nat.zero_le _⟩ (fun H locs hP hD hS => ?_)
  generalize ev1 : fx2_find 6 35 210 (stT (L 0) 1) x1 = v1 at hR ⊢
  replace hR := bnd_e hR
  refine lv_istore_n (lv' := [(3, .int v1), (0, .ref (aL 7 0)), (1, .int x1), (2, .int x2)]) hx hb dX3_record_11 rfl hl (by decide) rfl (fun ls hl => ?_)
  refine lv_iload_n hx hb dX3_record_12 rfl (lv_at hl 0 rfl) ?_
  refine lv_iconst (v := (-1)) hx hb dX3_record_13 (by decide) ?_
  refine lv_icmp_ne (tgt := 27) hx hb dX3_record_14 (by decide) (fun c2 => ?_) (fun c2 => ?_)
  · rw [if_neg c2] at hR
    refine lv_iload_n hx hb dX3_record_27 rfl (lv_at hl 3 rfl) ?_
    refine lv_if_lt (tgt := 36) hx hb dX3_record_28 (by decide) (fun c3 => ?_) (fun c3 => ?_)
    · rw [if_pos c3] at hR
      obtain ⟨sa, hsa⟩ := (EX.2 s hKs).1.2.2.2.2.2.2.2.2.2.2.2.2.2.2.2.1
      exact (by subst hR; exact kthrow hx hb hfl hown kXfit1 q3 q4 hsa (vx_hat (fun w h => hts w (List.mem_cons_of_mem _ (List.mem_append_right _ h))) (fun _ h => h) (fun w h => va_Nw.use (kXot1 w h) ((EX.2 s hKs).2.1 w h))) kXgood1 hSt hP hD hS (hl.1.trans hml.symm) dX3_record_36 dX3_record_39 dX3_record_40 dX3_record_42 dX3_record_45 htab (Nat.le_of_ble_eq_true rfl) (Nat.le_of_ble_eq_true rfl) hlk kec1 kXe1)
    · rw [if_neg c3] at hR
      refine lv_iload_n hx hb dX3_record_31 rfl (lv_at hl 3 rfl) ?_
      refine lv_iconst (v := 4) hx hb dX3_record_32 (by decide) ?_
      refine lv_icmp_le (tgt := 46) hx hb dX3_record_33 (by decide) (fun c4 => ?_) (fun c4 => ?_)
      · rw [if_pos c4] at hR
        refine lv_aload_n hx hb dX3_record_46 rfl (lv_at hl 1 rfl) ?_
        refine va_get (D := D) (ci := 3) (v := .ref (aL 0 0)) (C := RX3) (T := TX3) (N := 5) hx hb hts hinX3 hown hK hP 0 rfl rfl 0 (by decide) q5 (fun _ h9 => h9) rfl dX3_record_47 ?_
        refine va_getN (D := D) (ci := 1) (v := .ref (aL 0 6)) (C := RX1) (T := TX1) (N := 16) hx hb hts hinX1 hown hK hP 15 rfl rfl 4 (by decide) (va_Nw.use rfl ((E.2 s hKs).2.2.1)) (fun _ h9 => h9) rfl dX3_record_50 ?_
        refine lv_iload_n hx hb dX3_record_53 rfl (lv_at hl 0 rfl) ?_
        refine lv_iconst (v := 1) hx hb dX3_record_54 (by decide) ?_
        refine lv_iload_n hx hb dX3_record_55 rfl (lv_at hl 3 rfl) ?_
        refine lv_iadd hx hb dX3_record_56 ?_
        refine kcI (ci := 2) (q0 := 0) (As := [.int v1, .int (1 + x2)]) (rest := []) E.1 (cx2_get E (aL 0 6) (aL 0 7) 6 35 210 (by decide) (stT (L 0) 1) v1 (1 + x2)) hX (cwV 2 hts gX3_record_X2_get rfl rfl rfl hdX2_get ⟨Nat.le_of_ble_eq_true rfl, Nat.le_of_ble_eq_true rfl⟩) hKs hK hP hD hS hA _ _ (ls_tb1 cI cB cS aL L) (ls_tb1 cI cB cS aL L).symm rfl rfl rfl rfl hl.1 (Nat.le_of_ble_eq_true rfl) dX3_record_57 ⟨Nat.zero_le _, Nat.zero_le _⟩ (fun H locs hP hD hS => ?_)
        subst hR
        exact krX hx hb hr hlk hP hD hS dX3_record_60 rfl rfl rfl
      · rw [if_neg c4] at hR
        obtain ⟨sa, hsa⟩ := (EX.2 s hKs).1.2.2.2.2.2.2.2.2.2.2.2.2.2.2.2.1
        exact (by subst hR; exact kthrow hx hb hfl hown kXfit1 q3 q4 hsa (vx_hat (fun w h => hts w (List.mem_cons_of_mem _ (List.mem_append_right _ h))) (fun _ h => h) (fun w h => va_Nw.use (kXot1 w h) ((EX.2 s hKs).2.1 w h))) kXgood1 hSt hP hD hS (hl.1.trans hml.symm) dX3_record_36 dX3_record_39 dX3_record_40 dX3_record_42 dX3_record_45 htab (Nat.le_of_ble_eq_true rfl) (Nat.le_of_ble_eq_true rfl) hlk kec1 kXe1)
  · rw [if_pos c2] at hR
    obtain ⟨sa, hsa⟩ := (EX.2 s hKs).1.2.2.2.2.2.2.2.2.2.2.2.2.2.2.2.2.1
    exact (by subst hR; exact kthrow3 hx hb hfl hown kXfit3 q1 q2 hsa (vx_hat (fun w h => hts w (List.mem_cons_of_mem _ (List.mem_append_left _ (List.mem_append_right _ h)))) (fun _ h => h) (fun w h => va_Nw.use (kXot3 w h) ((EX.2 s hKs).2.2.2.1 w h))) kXgood3 hSt hP hD hS (hl.1.trans hml.symm) dX3_record_17 dX3_record_20 dX3_record_21 dX3_record_23 dX3_record_26 htab (Nat.le_of_ble_eq_true rfl) (Nat.le_of_ble_eq_true rfl) hlk kec3 kXe3)

theorem hdX3_numberAt : yX3_numberAt.cls = RX3 ∧ yX3_numberAt.cls ≠ "java/lang/invoke/MethodHandle" ∧ yX3_numberAt.cls ≠ "java/lang/invoke/VarHandle" ∧ (parseMethodDescriptor yX3_numberAt.desc).map (fun d => d.parameters.length) = some 2 := by decide +kernel
def fx3_numberAt (L : (Nat → St)) (x1 : Int32) (x2 : Int32) : Int32 × Int32 := (if x2 = 0 then (if x1 < 0 then (4, 0) else (if x1 < (fx2_count 4 20 80 (stT (L 0) 0)) then (0, fx2_get 4 20 80 (stT (L 0) 0) x1 0) else (4, 0))) else (if x1 < 0 then (4, 0) else (if x1 < (fx2_count 6 35 210 (stT (L 0) 1)) then (0, fx2_get 6 35 210 (stT (L 0) 1) x1 0) else (4, 0))))
set_option maxHeartbeats 4000000 in
set_option maxRecDepth 100000 in
theorem cx3_numberAt {l : Launch} {D : va_G} {cI cB cS cJ : ClassId} {K : State → Prop} (EX : kEX D cI cB cS cJ K) (hfl : l.stackTraces = false) (aL : Nat → Nat → Nat) (L : (Nat → St)) (x1 : Int32) (x2 : Int32) : kX l D K yX3_numberAt wsX3_numberAt 6 82 [.ref (aL 7 0), .int x1, .int x2] (lsW cI cB cS aL L) ((fx3_numberAt L x1 x2).1) ((fx3_numberAt L x1 x2).2) (lsW cI cB cS aL L) := by
  have E := EX.1
  refine kX_of (own := RX3) (cc := cX3_numberAt) (maxL := 4) (tys := kty cI cB cS cJ) (fun U h => (E.2 U h).1) (by decide) rfl rfl (Nat.le_of_ble_eq_true rfl) ?_
  intro p e s m below meth c A ls hx hb hr hml hts hown hlk hKs hK hP hD hA hS hl hSt htab
  have hl : lv_has ls 4 [(0, .ref (aL 7 0)), (1, .int x1), (2, .int x2)] := hl
  have hX : CallFix p m c cX3_numberAt 4 s _ wsX3_numberAt RX3 := ⟨hx, hb, hml, hown, hts⟩
  have hinX1 : ∀ w ∈ wsX10, w ∈ wsX3_numberAt := fun w h => List.mem_cons_of_mem _ (List.mem_append_left _ (List.mem_append_left _ (List.mem_append_right _ h)))
  have hinX3 : ∀ w ∈ wsX30, w ∈ wsX3_numberAt := fun w h => List.mem_cons_of_mem _ (List.mem_append_left _ (List.mem_append_left _ (List.mem_append_left _ (List.mem_append_right _ h))))
  have q1 := hts (.classLink RX3 169 "java/lang/IndexOutOfBoundsException") (List.mem_of_getElem? (i := 1) rfl)
  have q2 := hts (.initialized "java/lang/IndexOutOfBoundsException") (List.mem_of_getElem? (i := 2) rfl)
  have q3 := hts (.fieldLink RX3 10 "LabelStation" "state" "LLabelStation$State;") (List.mem_of_getElem? (i := 3) rfl)
  generalize hR : fx3_numberAt L x1 x2 = R
  rw [fx3_numberAt] at hR
  refine lv_iload_n hx hb dX3_numberAt_0 rfl (lv_at hl 2 rfl) ?_
  refine lv_if_eq (tgt := 14) hx hb dX3_numberAt_1 (by decide) (fun c1 => ?_) (fun c1 => ?_)
  · rw [if_pos c1] at hR
    refine lv_aload_n hx hb dX3_numberAt_14 rfl (lv_at hl 0 rfl) ?_
    refine va_get (D := D) (ci := 3) (v := .ref (aL 0 0)) (C := RX3) (T := TX3) (N := 5) hx hb hts hinX3 hown hK hP 0 rfl rfl 0 (by decide) q3 (fun _ h9 => h9) rfl dX3_numberAt_15 ?_
    refine va_getN (D := D) (ci := 1) (v := .ref (aL 0 4)) (C := RX1) (T := TX1) (N := 16) hx hb hts hinX1 hown hK hP 15 rfl rfl 3 (by decide) (va_Nw.use rfl ((E.2 s hKs).2.1)) (fun _ h9 => h9) rfl dX3_numberAt_18 ?_
    refine lv_astore_n (lv' := [(3, .ref (aL 0 4)), (0, .ref (aL 7 0)), (1, .int x1), (2, .int x2)]) hx hb dX3_numberAt_21 rfl hl (by decide) rfl (fun ls hl => ?_)
    refine lv_iload_n hx hb dX3_numberAt_22 rfl (lv_at hl 2 rfl) ?_
    refine lv_if_lt (tgt := 34) hx hb dX3_numberAt_23 (by decide) (fun c2 => ?_) (fun c2 => ?_)
    · rw [if_pos c2] at hR
      obtain ⟨sa, hsa⟩ := (EX.2 s hKs).1.2.2.2.2.2.2.2.2.2.2.2.2.2.2.2.2.2.1
      exact (by subst hR; exact kthrow hx hb hfl hown kXfit4 q1 q2 hsa (vx_hat (fun w h => hts w (List.mem_cons_of_mem _ (List.mem_append_right _ h))) (fun _ h => h) (fun w h => va_Nw.use (kXot4 w h) ((EX.2 s hKs).2.2.2.2 w h))) kXgood4 hSt hP hD hS (hl.1.trans hml.symm) dX3_numberAt_34 dX3_numberAt_37 dX3_numberAt_38 dX3_numberAt_40 dX3_numberAt_43 htab (Nat.le_of_ble_eq_true rfl) (Nat.le_of_ble_eq_true rfl) hlk kec4 kXe4)
    · rw [if_neg c2] at hR
      refine lv_iload_n hx hb dX3_numberAt_26 rfl (lv_at hl 2 rfl) ?_
      refine lv_aload_n hx hb dX3_numberAt_27 rfl (lv_at hl 0 rfl) ?_
      refine kcI (ci := 2) (q0 := 0) (As := []) (rest := [.int x1]) E.1 (cx2_count E (aL 0 4) (aL 0 5) 4 20 80 (by decide) (stT (L 0) 0)) hX (cwV 0 hts gX3_numberAt_X2_count rfl rfl rfl hdX2_count ⟨Nat.le_of_ble_eq_true rfl, Nat.le_of_ble_eq_true rfl⟩) hKs hK hP hD hS hA _ _ (ls_tb0 cI cB cS aL L) (ls_tb0 cI cB cS aL L).symm rfl rfl rfl rfl hl.1 (Nat.le_of_ble_eq_true rfl) dX3_numberAt_28 ⟨Nat.zero_le _, Nat.zero_le _⟩ (fun H locs hP hD hS => ?_)
      refine lv_icmp_lt (tgt := 44) hx hb dX3_numberAt_31 (by decide) (fun c3 => ?_) (fun c3 => ?_)
      · rw [if_pos c3] at hR
        refine lv_aload_n hx hb dX3_numberAt_44 rfl (lv_at hl 0 rfl) ?_
        refine lv_iload_n hx hb dX3_numberAt_45 rfl (lv_at hl 2 rfl) ?_
        refine lv_iconst (v := 0) hx hb dX3_numberAt_46 (by decide) ?_
        refine kcI (ci := 2) (q0 := 0) (As := [.int x1, .int 0]) (rest := []) E.1 (cx2_get E (aL 0 4) (aL 0 5) 4 20 80 (by decide) (stT (L 0) 0) x1 0) hX (cwV 2 hts gX3_numberAt_X2_get rfl rfl rfl hdX2_get ⟨Nat.le_of_ble_eq_true rfl, Nat.le_of_ble_eq_true rfl⟩) hKs hK hP hD hS hA _ _ (ls_tb0 cI cB cS aL L) (ls_tb0 cI cB cS aL L).symm rfl rfl rfl rfl hl.1 (Nat.le_of_ble_eq_true rfl) dX3_numberAt_47 ⟨Nat.zero_le _, Nat.zero_le _⟩ (fun H locs hP hD hS => ?_)
        subst hR
        exact krX hx hb hr hlk hP hD hS dX3_numberAt_50 rfl rfl rfl
      · rw [if_neg c3] at hR
        obtain ⟨sa, hsa⟩ := (EX.2 s hKs).1.2.2.2.2.2.2.2.2.2.2.2.2.2.2.2.2.2.1
        exact (by subst hR; exact kthrow hx hb hfl hown kXfit4 q1 q2 hsa (vx_hat (fun w h => hts w (List.mem_cons_of_mem _ (List.mem_append_right _ h))) (fun _ h => h) (fun w h => va_Nw.use (kXot4 w h) ((EX.2 s hKs).2.2.2.2 w h))) kXgood4 hSt hP hD hS (hl.1.trans hml.symm) dX3_numberAt_34 dX3_numberAt_37 dX3_numberAt_38 dX3_numberAt_40 dX3_numberAt_43 htab (Nat.le_of_ble_eq_true rfl) (Nat.le_of_ble_eq_true rfl) hlk kec4 kXe4)
  · rw [if_neg c1] at hR
    refine lv_aload_n hx hb dX3_numberAt_4 rfl (lv_at hl 0 rfl) ?_
    refine va_get (D := D) (ci := 3) (v := .ref (aL 0 0)) (C := RX3) (T := TX3) (N := 5) hx hb hts hinX3 hown hK hP 0 rfl rfl 0 (by decide) q3 (fun _ h9 => h9) rfl dX3_numberAt_5 ?_
    refine va_getN (D := D) (ci := 1) (v := .ref (aL 0 6)) (C := RX1) (T := TX1) (N := 16) hx hb hts hinX1 hown hK hP 15 rfl rfl 4 (by decide) (va_Nw.use rfl ((E.2 s hKs).2.2.1)) (fun _ h9 => h9) rfl dX3_numberAt_8 ?_
    refine lv_goto (tgt := 21) hx hb dX3_numberAt_11 (by decide) ?_
    refine lv_astore_n (lv' := [(3, .ref (aL 0 6)), (0, .ref (aL 7 0)), (1, .int x1), (2, .int x2)]) hx hb dX3_numberAt_21 rfl hl (by decide) rfl (fun ls hl => ?_)
    refine lv_iload_n hx hb dX3_numberAt_22 rfl (lv_at hl 2 rfl) ?_
    refine lv_if_lt (tgt := 34) hx hb dX3_numberAt_23 (by decide) (fun c4 => ?_) (fun c4 => ?_)
    · rw [if_pos c4] at hR
      obtain ⟨sa, hsa⟩ := (EX.2 s hKs).1.2.2.2.2.2.2.2.2.2.2.2.2.2.2.2.2.2.1
      exact (by subst hR; exact kthrow hx hb hfl hown kXfit4 q1 q2 hsa (vx_hat (fun w h => hts w (List.mem_cons_of_mem _ (List.mem_append_right _ h))) (fun _ h => h) (fun w h => va_Nw.use (kXot4 w h) ((EX.2 s hKs).2.2.2.2 w h))) kXgood4 hSt hP hD hS (hl.1.trans hml.symm) dX3_numberAt_34 dX3_numberAt_37 dX3_numberAt_38 dX3_numberAt_40 dX3_numberAt_43 htab (Nat.le_of_ble_eq_true rfl) (Nat.le_of_ble_eq_true rfl) hlk kec4 kXe4)
    · rw [if_neg c4] at hR
      refine lv_iload_n hx hb dX3_numberAt_26 rfl (lv_at hl 2 rfl) ?_
      refine lv_aload_n hx hb dX3_numberAt_27 rfl (lv_at hl 0 rfl) ?_
      refine kcI (ci := 2) (q0 := 0) (As := []) (rest := [.int x1]) E.1 (cx2_count E (aL 0 6) (aL 0 7) 6 35 210 (by decide) (stT (L 0) 1)) hX (cwV 0 hts gX3_numberAt_X2_count rfl rfl rfl hdX2_count ⟨Nat.le_of_ble_eq_true rfl, Nat.le_of_ble_eq_true rfl⟩) hKs hK hP hD hS hA _ _ (ls_tb1 cI cB cS aL L) (ls_tb1 cI cB cS aL L).symm rfl rfl rfl rfl hl.1 (Nat.le_of_ble_eq_true rfl) dX3_numberAt_28 ⟨Nat.zero_le _, Nat.zero_le _⟩ (fun H locs hP hD hS => ?_)
      refine lv_icmp_lt (tgt := 44) hx hb dX3_numberAt_31 (by decide) (fun c5 => ?_) (fun c5 => ?_)
      · rw [if_pos c5] at hR
        refine lv_aload_n hx hb dX3_numberAt_44 rfl (lv_at hl 0 rfl) ?_
        refine lv_iload_n hx hb dX3_numberAt_45 rfl (lv_at hl 2 rfl) ?_
        refine lv_iconst (v := 0) hx hb dX3_numberAt_46 (by decide) ?_
        refine kcI (ci := 2) (q0 := 0) (As := [.int x1, .int 0]) (rest := []) E.1 (cx2_get E (aL 0 6) (aL 0 7) 6 35 210 (by decide) (stT (L 0) 1) x1 0) hX (cwV 2 hts gX3_numberAt_X2_get rfl rfl rfl hdX2_get ⟨Nat.le_of_ble_eq_true rfl, Nat.le_of_ble_eq_true rfl⟩) hKs hK hP hD hS hA _ _ (ls_tb1 cI cB cS aL L) (ls_tb1 cI cB cS aL L).symm rfl rfl rfl rfl hl.1 (Nat.le_of_ble_eq_true rfl) dX3_numberAt_47 ⟨Nat.zero_le _, Nat.zero_le _⟩ (fun H locs hP hD hS => ?_)
        subst hR
        exact krX hx hb hr hlk hP hD hS dX3_numberAt_50 rfl rfl rfl
      · rw [if_neg c5] at hR
        obtain ⟨sa, hsa⟩ := (EX.2 s hKs).1.2.2.2.2.2.2.2.2.2.2.2.2.2.2.2.2.2.1
        exact (by subst hR; exact kthrow hx hb hfl hown kXfit4 q1 q2 hsa (vx_hat (fun w h => hts w (List.mem_cons_of_mem _ (List.mem_append_right _ h))) (fun _ h => h) (fun w h => va_Nw.use (kXot4 w h) ((EX.2 s hKs).2.2.2.2 w h))) kXgood4 hSt hP hD hS (hl.1.trans hml.symm) dX3_numberAt_34 dX3_numberAt_37 dX3_numberAt_38 dX3_numberAt_40 dX3_numberAt_43 htab (Nat.le_of_ble_eq_true rfl) (Nat.le_of_ble_eq_true rfl) hlk kec4 kXe4)

theorem hdX3_counter : yX3_counter.cls = RX3 ∧ yX3_counter.cls ≠ "java/lang/invoke/MethodHandle" ∧ yX3_counter.cls ≠ "java/lang/invoke/VarHandle" ∧ (parseMethodDescriptor yX3_counter.desc).map (fun d => d.parameters.length) = some 1 := by decide +kernel
def fx3_counter (L : (Nat → St)) (x1 : Int32) : Int32 × Int32 := (if x1 < 0 then (1, 0) else (if x1 ≤ 17 then (0, fx1_counted (L 0) x1) else (1, 0)))
set_option maxHeartbeats 4000000 in
set_option maxRecDepth 100000 in
theorem cx3_counter {l : Launch} {D : va_G} {cI cB cS cJ : ClassId} {K : State → Prop} (EX : kEX D cI cB cS cJ K) (hfl : l.stackTraces = false) (aL : Nat → Nat → Nat) (L : (Nat → St)) (x1 : Int32) : kX l D K yX3_counter wsX3_counter 6 82 [.ref (aL 7 0), .int x1] (lsW cI cB cS aL L) ((fx3_counter L x1).1) ((fx3_counter L x1).2) (lsW cI cB cS aL L) := by
  have E := EX.1
  refine kX_of (own := RX3) (cc := cX3_counter) (maxL := 2) (tys := kty cI cB cS cJ) (fun U h => (E.2 U h).1) (by decide) rfl rfl (Nat.le_of_ble_eq_true rfl) ?_
  intro p e s m below meth c A ls hx hb hr hml hts hown hlk hKs hK hP hD hA hS hl hSt htab
  have hl : lv_has ls 2 [(0, .ref (aL 7 0)), (1, .int x1)] := hl
  have hX : CallFix p m c cX3_counter 2 s _ wsX3_counter RX3 := ⟨hx, hb, hml, hown, hts⟩
  have hinX3 : ∀ w ∈ wsX30, w ∈ wsX3_counter := fun w h => List.mem_cons_of_mem _ (List.mem_append_left _ (List.mem_append_left _ (List.mem_append_right _ h)))
  have q1 := hts (.classLink RX3 34 "java/lang/IllegalArgumentException") (List.mem_of_getElem? (i := 1) rfl)
  have q2 := hts (.initialized "java/lang/IllegalArgumentException") (List.mem_of_getElem? (i := 2) rfl)
  have q3 := hts (.fieldLink RX3 10 "LabelStation" "state" "LLabelStation$State;") (List.mem_of_getElem? (i := 3) rfl)
  generalize hR : fx3_counter L x1 = R
  rw [fx3_counter] at hR
  refine lv_iload_n hx hb dX3_counter_0 rfl (lv_at hl 1 rfl) ?_
  refine lv_if_lt (tgt := 10) hx hb dX3_counter_1 (by decide) (fun c1 => ?_) (fun c1 => ?_)
  · rw [if_pos c1] at hR
    obtain ⟨sa, hsa⟩ := (EX.2 s hKs).1.2.2.2.2.2.2.2.2.2.2.2.2.2.2.2.2.2.2.1
    exact (by subst hR; exact kthrow hx hb hfl hown kXfit1 q1 q2 hsa (vx_hat (fun w h => hts w (List.mem_cons_of_mem _ (List.mem_append_right _ h))) (fun _ h => h) (fun w h => va_Nw.use (kXot1 w h) ((EX.2 s hKs).2.1 w h))) kXgood1 hSt hP hD hS (hl.1.trans hml.symm) dX3_counter_10 dX3_counter_13 dX3_counter_14 dX3_counter_16 dX3_counter_19 htab (Nat.le_of_ble_eq_true rfl) (Nat.le_of_ble_eq_true rfl) hlk kec1 kXe1)
  · rw [if_neg c1] at hR
    refine lv_iload_n hx hb dX3_counter_4 rfl (lv_at hl 1 rfl) ?_
    refine lv_bipush (v := 17) hx hb dX3_counter_5 (by decide) ?_
    refine lv_icmp_le (tgt := 20) hx hb dX3_counter_7 (by decide) (fun c2 => ?_) (fun c2 => ?_)
    · rw [if_pos c2] at hR
      refine lv_aload_n hx hb dX3_counter_20 rfl (lv_at hl 0 rfl) ?_
      refine va_get (D := D) (ci := 3) (v := .ref (aL 0 0)) (C := RX3) (T := TX3) (N := 5) hx hb hts hinX3 hown hK hP 0 rfl rfl 0 (by decide) q3 (fun _ h9 => h9) rfl dX3_counter_21 ?_
      refine lv_iload_n hx hb dX3_counter_24 rfl (lv_at hl 1 rfl) ?_
      refine kcI (ci := 1) (q0 := 0) (As := [.int x1]) (rest := []) E.1 (cx1_counted E (aL 0) (L 0) x1) hX (cwV 1 hts gX3_counter_X1_counted rfl rfl rfl hdX1_counted ⟨Nat.le_of_ble_eq_true rfl, Nat.le_of_ble_eq_true rfl⟩) hKs hK hP hD hS hA _ _ (ls_st0 cI cB cS aL L) (ls_st0 cI cB cS aL L).symm rfl rfl rfl rfl hl.1 (Nat.le_of_ble_eq_true rfl) dX3_counter_25 ⟨Nat.zero_le _, Nat.zero_le _⟩ (fun H locs hP hD hS => ?_)
      subst hR
      exact krX hx hb hr hlk hP hD hS dX3_counter_28 rfl rfl rfl
    · rw [if_neg c2] at hR
      obtain ⟨sa, hsa⟩ := (EX.2 s hKs).1.2.2.2.2.2.2.2.2.2.2.2.2.2.2.2.2.2.2.1
      exact (by subst hR; exact kthrow hx hb hfl hown kXfit1 q1 q2 hsa (vx_hat (fun w h => hts w (List.mem_cons_of_mem _ (List.mem_append_right _ h))) (fun _ h => h) (fun w h => va_Nw.use (kXot1 w h) ((EX.2 s hKs).2.1 w h))) kXgood1 hSt hP hD hS (hl.1.trans hml.symm) dX3_counter_10 dX3_counter_13 dX3_counter_14 dX3_counter_16 dX3_counter_19 htab (Nat.le_of_ble_eq_true rfl) (Nat.le_of_ble_eq_true rfl) hlk kec1 kXe1)

theorem hdX3_reconcile : yX3_reconcile.cls = RX3 ∧ yX3_reconcile.cls ≠ "java/lang/invoke/MethodHandle" ∧ yX3_reconcile.cls ≠ "java/lang/invoke/VarHandle" ∧ (parseMethodDescriptor yX3_reconcile.desc).map (fun d => d.parameters.length) = some 1 := by decide +kernel
def fx3_reconcile (L : (Nat → St)) (x1 : Int32) : Int32 := (if x1 = 0 then (bnd (fx3_recordsThatLeft L) (fun v2 => ((fx1_counted (L 0) 0) - v2) - (fx2_count 6 35 210 (stT (L 0) 1)))) else ((fx1_counted (L 0) 0) - (((fx1_counted (L 0) 8) + ((L 0) 3 5)) + (fx1_counted (L 0) 7))) - (fx2_count 4 20 80 (stT (L 0) 0)))
set_option maxHeartbeats 4000000 in
set_option maxRecDepth 100000 in
theorem cx3_reconcile {l : Launch} {D : va_G} {cI cB cS cJ : ClassId} {K : State → Prop} (EX : kEX D cI cB cS cJ K) (aL : Nat → Nat → Nat) (L : (Nat → St)) (x1 : Int32) : kI l D K yX3_reconcile wsX3_reconcile 2 41 [.ref (aL 7 0), .int x1] (lsW cI cB cS aL L) (fx3_reconcile L x1) (lsW cI cB cS aL L) := by
  have E := EX.1
  refine kI_of (own := RX3) (cc := cX3_reconcile) (maxL := 3) (tys := kty cI cB cS cJ) (fun U h => (E.2 U h).1) (by decide) rfl rfl (Nat.le_of_ble_eq_true rfl) ?_
  intro p e s m below meth c A ls hx hb hr hml hts hown hlk hKs hK hP hD hA hS hl
  have hl : lv_has ls 3 [(0, .ref (aL 7 0)), (1, .int x1)] := hl
  have hX : CallFix p m c cX3_reconcile 3 s _ wsX3_reconcile RX3 := ⟨hx, hb, hml, hown, hts⟩
  have hinX1 : ∀ w ∈ wsX10, w ∈ wsX3_reconcile := fun w h => List.mem_cons_of_mem _ (List.mem_append_left _ (List.mem_append_right _ h))
  have hinX3 : ∀ w ∈ wsX30, w ∈ wsX3_reconcile := fun w h => List.mem_cons_of_mem _ (List.mem_append_left _ (List.mem_append_left _ (List.mem_append_right _ h)))
  have q1 := hts (.fieldLink RX3 10 "LabelStation" "state" "LLabelStation$State;") (List.mem_of_getElem? (i := 1) rfl)
  generalize hR : fx3_reconcile L x1 = R
  rw [fx3_reconcile] at hR
  refine lv_iload_n hx hb dX3_reconcile_0 rfl (lv_at hl 1 rfl) ?_
  refine lv_if_eq (tgt := 54) hx hb dX3_reconcile_1 (by decide) (fun c1 => ?_) (fun c1 => ?_)
  · rw [if_pos c1] at hR
    refine lv_aload_n hx hb dX3_reconcile_54 rfl (lv_at hl 0 rfl) ?_
    refine va_get (D := D) (ci := 3) (v := .ref (aL 0 0)) (C := RX3) (T := TX3) (N := 5) hx hb hts hinX3 hown hK hP 0 rfl rfl 0 (by decide) q1 (fun _ h9 => h9) rfl dX3_reconcile_55 ?_
    refine lv_iconst (v := 0) hx hb dX3_reconcile_58 (by decide) ?_
    refine kcI (ci := 1) (q0 := 0) (As := [.int 0]) (rest := []) E.1 (cx1_counted E (aL 0) (L 0) 0) hX (cwV 1 hts gX3_reconcile_X1_counted rfl rfl rfl hdX1_counted ⟨Nat.le_of_ble_eq_true rfl, Nat.le_of_ble_eq_true rfl⟩) hKs hK hP hD hS hA _ _ (ls_st0 cI cB cS aL L) (ls_st0 cI cB cS aL L).symm rfl rfl rfl rfl hl.1 (Nat.le_of_ble_eq_true rfl) dX3_reconcile_59 ⟨Nat.zero_le _, Nat.zero_le _⟩ (fun H locs hP hD hS => ?_)
    refine lv_aload_n hx hb dX3_reconcile_62 rfl (lv_at hl 0 rfl) ?_
    refine kcI (ci := 3) (q0 := 0) (As := []) (rest := [.int (fx1_counted (L 0) 0)]) E.1 (cx3_recordsThatLeft EX aL L) hX (cwV 0 hts gX3_reconcile_X3_recordsThatLeft rfl rfl rfl hdX3_recordsThatLeft ⟨Nat.le_of_ble_eq_true rfl, Nat.le_of_ble_eq_true rfl⟩) hKs hK hP hD hS hA _ _ (kw_self _) (kw_self _).symm rfl rfl rfl rfl hl.1 (Nat.le_of_ble_eq_true rfl) dX3_reconcile_63 ⟨Nat.zero_le _, Nat.zero_le _⟩ (fun H locs hP hD hS => ?_)
    generalize ev2 : fx3_recordsThatLeft L = v2 at hR ⊢
    replace hR := bnd_e hR
    refine lv_isub hx hb dX3_reconcile_66 ?_
    refine lv_aload_n hx hb dX3_reconcile_67 rfl (lv_at hl 0 rfl) ?_
    refine va_get (D := D) (ci := 3) (v := .ref (aL 0 0)) (C := RX3) (T := TX3) (N := 5) hx hb hts hinX3 hown hK hP 0 rfl rfl 0 (by decide) q1 (fun _ h9 => h9) rfl dX3_reconcile_68 ?_
    refine va_getN (D := D) (ci := 1) (v := .ref (aL 0 6)) (C := RX1) (T := TX1) (N := 16) hx hb hts hinX1 hown hK hP 15 rfl rfl 4 (by decide) (va_Nw.use rfl ((E.2 s hKs).2.2.1)) (fun _ h9 => h9) rfl dX3_reconcile_71 ?_
    refine kcI (ci := 2) (q0 := 0) (As := []) (rest := [.int ((fx1_counted (L 0) 0) - v2)]) E.1 (cx2_count E (aL 0 6) (aL 0 7) 6 35 210 (by decide) (stT (L 0) 1)) hX (cwV 0 hts gX3_reconcile_X2_count rfl rfl rfl hdX2_count ⟨Nat.le_of_ble_eq_true rfl, Nat.le_of_ble_eq_true rfl⟩) hKs hK hP hD hS hA _ _ (ls_tb1 cI cB cS aL L) (ls_tb1 cI cB cS aL L).symm rfl rfl rfl rfl hl.1 (Nat.le_of_ble_eq_true rfl) dX3_reconcile_74 ⟨Nat.zero_le _, Nat.zero_le _⟩ (fun H locs hP hD hS => ?_)
    refine lv_isub hx hb dX3_reconcile_77 ?_
    subst hR
    exact krI hx hb hr hlk hP hD hS dX3_reconcile_78 rfl rfl
  · rw [if_neg c1] at hR
    refine lv_aload_n hx hb dX3_reconcile_4 rfl (lv_at hl 0 rfl) ?_
    refine va_get (D := D) (ci := 3) (v := .ref (aL 0 0)) (C := RX3) (T := TX3) (N := 5) hx hb hts hinX3 hown hK hP 0 rfl rfl 0 (by decide) q1 (fun _ h9 => h9) rfl dX3_reconcile_5 ?_
    refine lv_bipush (v := 8) hx hb dX3_reconcile_8 (by decide) ?_
    refine kcI (ci := 1) (q0 := 0) (As := [.int 8]) (rest := []) E.1 (cx1_counted E (aL 0) (L 0) 8) hX (cwV 1 hts gX3_reconcile_X1_counted rfl rfl rfl hdX1_counted ⟨Nat.le_of_ble_eq_true rfl, Nat.le_of_ble_eq_true rfl⟩) hKs hK hP hD hS hA _ _ (ls_st0 cI cB cS aL L) (ls_st0 cI cB cS aL L).symm rfl rfl rfl rfl hl.1 (Nat.le_of_ble_eq_true rfl) dX3_reconcile_10 ⟨Nat.zero_le _, Nat.zero_le _⟩ (fun H locs hP hD hS => ?_)
    refine lv_aload_n hx hb dX3_reconcile_13 rfl (lv_at hl 0 rfl) ?_
    refine va_get (D := D) (ci := 3) (v := .ref (aL 0 0)) (C := RX3) (T := TX3) (N := 5) hx hb hts hinX3 hown hK hP 0 rfl rfl 0 (by decide) q1 (fun _ h9 => h9) rfl dX3_reconcile_14 ?_
    refine va_getN (D := D) (ci := 1) (v := .int ((L 0) 3 5)) (C := RX1) (T := TX1) (N := 16) hx hb hts hinX1 hown hK hP 15 rfl rfl 13 (by decide) (va_Nw.use rfl ((E.2 s hKs).2.2.2.2.2.2.2.1)) (fun _ h9 => h9) rfl dX3_reconcile_17 ?_
    refine lv_iadd hx hb dX3_reconcile_20 ?_
    refine lv_aload_n hx hb dX3_reconcile_21 rfl (lv_at hl 0 rfl) ?_
    refine va_get (D := D) (ci := 3) (v := .ref (aL 0 0)) (C := RX3) (T := TX3) (N := 5) hx hb hts hinX3 hown hK hP 0 rfl rfl 0 (by decide) q1 (fun _ h9 => h9) rfl dX3_reconcile_22 ?_
    refine lv_bipush (v := 7) hx hb dX3_reconcile_25 (by decide) ?_
    refine kcI (ci := 1) (q0 := 0) (As := [.int 7]) (rest := [.int ((fx1_counted (L 0) 8) + ((L 0) 3 5))]) E.1 (cx1_counted E (aL 0) (L 0) 7) hX (cwV 1 hts gX3_reconcile_X1_counted rfl rfl rfl hdX1_counted ⟨Nat.le_of_ble_eq_true rfl, Nat.le_of_ble_eq_true rfl⟩) hKs hK hP hD hS hA _ _ (ls_st0 cI cB cS aL L) (ls_st0 cI cB cS aL L).symm rfl rfl rfl rfl hl.1 (Nat.le_of_ble_eq_true rfl) dX3_reconcile_27 ⟨Nat.zero_le _, Nat.zero_le _⟩ (fun H locs hP hD hS => ?_)
    refine lv_iadd hx hb dX3_reconcile_30 ?_
    refine lv_istore_n (lv' := [(2, .int (((fx1_counted (L 0) 8) + ((L 0) 3 5)) + (fx1_counted (L 0) 7))), (0, .ref (aL 7 0)), (1, .int x1)]) hx hb dX3_reconcile_31 rfl hl (by decide) rfl (fun ls hl => ?_)
    refine lv_aload_n hx hb dX3_reconcile_32 rfl (lv_at hl 1 rfl) ?_
    refine va_get (D := D) (ci := 3) (v := .ref (aL 0 0)) (C := RX3) (T := TX3) (N := 5) hx hb hts hinX3 hown hK hP 0 rfl rfl 0 (by decide) q1 (fun _ h9 => h9) rfl dX3_reconcile_33 ?_
    refine lv_iconst (v := 0) hx hb dX3_reconcile_36 (by decide) ?_
    refine kcI (ci := 1) (q0 := 0) (As := [.int 0]) (rest := []) E.1 (cx1_counted E (aL 0) (L 0) 0) hX (cwV 1 hts gX3_reconcile_X1_counted rfl rfl rfl hdX1_counted ⟨Nat.le_of_ble_eq_true rfl, Nat.le_of_ble_eq_true rfl⟩) hKs hK hP hD hS hA _ _ (ls_st0 cI cB cS aL L) (ls_st0 cI cB cS aL L).symm rfl rfl rfl rfl hl.1 (Nat.le_of_ble_eq_true rfl) dX3_reconcile_37 ⟨Nat.zero_le _, Nat.zero_le _⟩ (fun H locs hP hD hS => ?_)
    refine lv_iload_n hx hb dX3_reconcile_40 rfl (lv_at hl 0 rfl) ?_
    refine lv_isub hx hb dX3_reconcile_41 ?_
    refine lv_aload_n hx hb dX3_reconcile_42 rfl (lv_at hl 1 rfl) ?_
    refine va_get (D := D) (ci := 3) (v := .ref (aL 0 0)) (C := RX3) (T := TX3) (N := 5) hx hb hts hinX3 hown hK hP 0 rfl rfl 0 (by decide) q1 (fun _ h9 => h9) rfl dX3_reconcile_43 ?_
    refine va_getN (D := D) (ci := 1) (v := .ref (aL 0 4)) (C := RX1) (T := TX1) (N := 16) hx hb hts hinX1 hown hK hP 15 rfl rfl 3 (by decide) (va_Nw.use rfl ((E.2 s hKs).2.1)) (fun _ h9 => h9) rfl dX3_reconcile_46 ?_
    refine kcI (ci := 2) (q0 := 0) (As := []) (rest := [.int ((fx1_counted (L 0) 0) - (((fx1_counted (L 0) 8) + ((L 0) 3 5)) + (fx1_counted (L 0) 7)))]) E.1 (cx2_count E (aL 0 4) (aL 0 5) 4 20 80 (by decide) (stT (L 0) 0)) hX (cwV 0 hts gX3_reconcile_X2_count rfl rfl rfl hdX2_count ⟨Nat.le_of_ble_eq_true rfl, Nat.le_of_ble_eq_true rfl⟩) hKs hK hP hD hS hA _ _ (ls_tb0 cI cB cS aL L) (ls_tb0 cI cB cS aL L).symm rfl rfl rfl rfl hl.1 (Nat.le_of_ble_eq_true rfl) dX3_reconcile_49 ⟨Nat.zero_le _, Nat.zero_le _⟩ (fun H locs hP hD hS => ?_)
    refine lv_isub hx hb dX3_reconcile_52 ?_
    subst hR
    exact krI hx hb hr hlk hP hD hS dX3_reconcile_53 rfl rfl

theorem hdX3_goodShare : yX3_goodShare.cls = RX3 ∧ yX3_goodShare.cls ≠ "java/lang/invoke/MethodHandle" ∧ yX3_goodShare.cls ≠ "java/lang/invoke/VarHandle" ∧ (parseMethodDescriptor yX3_goodShare.desc).map (fun d => d.parameters.length) = some 0 := by decide +kernel
def fx3_goodShare (L : (Nat → St)) : UInt64 := (bnd (fx3_recordsThatLeft L) (fun v1 => (if v1 = 0 then 0 else FP.ddiv (FP.i2d (fx1_counted (L 0) 1)) (FP.i2d v1))))
def sx3_goodShare (L : (Nat → St)) : Prop := (bnd (fx3_recordsThatLeft L) (fun v1 => (if v1 = 0 then True else vf_n64 (FP.ddiv (FP.i2d (fx1_counted (L 0) 1)) (FP.i2d v1)))))
set_option maxHeartbeats 4000000 in
set_option maxRecDepth 100000 in
theorem cx3_goodShare {l : Launch} {D : va_G} {cI cB cS cJ : ClassId} {K : State → Prop} (EX : kEX D cI cB cS cJ K) (aL : Nat → Nat → Nat) (L : (Nat → St)) (hF : sx3_goodShare L) : kF l D K yX3_goodShare wsX3_goodShare 2 41 [.ref (aL 7 0)] (lsW cI cB cS aL L) (fx3_goodShare L) (lsW cI cB cS aL L) := by
  have E := EX.1
  refine kF_of (own := RX3) (cc := cX3_goodShare) (maxL := 2) (tys := kty cI cB cS cJ) (fun U h => (E.2 U h).1) (by decide) rfl rfl (Nat.le_of_ble_eq_true rfl) ?_
  intro p e s m below meth c A ls hx hb hr hml hts hown hlk hKs hK hP hD hA hS hl
  have hl : lv_has ls 2 [(0, .ref (aL 7 0))] := hl
  have hX : CallFix p m c cX3_goodShare 2 s _ wsX3_goodShare RX3 := ⟨hx, hb, hml, hown, hts⟩
  have hinX3 : ∀ w ∈ wsX30, w ∈ wsX3_goodShare := fun w h => List.mem_cons_of_mem _ (List.mem_append_left _ (List.mem_append_right _ h))
  have q1 := hts (.fieldLink RX3 10 "LabelStation" "state" "LLabelStation$State;") (List.mem_of_getElem? (i := 1) rfl)
  generalize hR : fx3_goodShare L = R
  rw [fx3_goodShare] at hR
  rw [sx3_goodShare] at hF
  refine lv_aload_n hx hb dX3_goodShare_0 rfl (lv_at hl 0 rfl) ?_
  refine kcI (ci := 3) (q0 := 0) (As := []) (rest := []) E.1 (cx3_recordsThatLeft EX aL L) hX (cwV 0 hts gX3_goodShare_X3_recordsThatLeft rfl rfl rfl hdX3_recordsThatLeft ⟨Nat.le_of_ble_eq_true rfl, Nat.le_of_ble_eq_true rfl⟩) hKs hK hP hD hS hA _ _ (kw_self _) (kw_self _).symm rfl rfl rfl rfl hl.1 (Nat.le_of_ble_eq_true rfl) dX3_goodShare_1 ⟨Nat.zero_le _, Nat.zero_le _⟩ (fun H locs hP hD hS => ?_)
  generalize ev1 : fx3_recordsThatLeft L = v1 at hR hF ⊢
  replace hR := bnd_e hR
  replace hF := bnd_p hF
  refine lv_istore_n (lv' := [(1, .int v1), (0, .ref (aL 7 0))]) hx hb dX3_goodShare_4 rfl hl (by decide) rfl (fun ls hl => ?_)
  refine lv_iload_n hx hb dX3_goodShare_5 rfl (lv_at hl 0 rfl) ?_
  refine lv_if_ne (tgt := 13) hx hb dX3_goodShare_6 (by decide) (fun c2 => ?_) (fun c2 => ?_)
  · rw [if_neg c2] at hR hF
    refine lv_aload_n hx hb dX3_goodShare_13 rfl (lv_at hl 1 rfl) ?_
    refine va_get (D := D) (ci := 3) (v := .ref (aL 0 0)) (C := RX3) (T := TX3) (N := 5) hx hb hts hinX3 hown hK hP 0 rfl rfl 0 (by decide) q1 (fun _ h9 => h9) rfl dX3_goodShare_14 ?_
    refine lv_iconst (v := 1) hx hb dX3_goodShare_17 (by decide) ?_
    refine kcI (ci := 1) (q0 := 0) (As := [.int 1]) (rest := []) E.1 (cx1_counted E (aL 0) (L 0) 1) hX (cwV 1 hts gX3_goodShare_X1_counted rfl rfl rfl hdX1_counted ⟨Nat.le_of_ble_eq_true rfl, Nat.le_of_ble_eq_true rfl⟩) hKs hK hP hD hS hA _ _ (ls_st0 cI cB cS aL L) (ls_st0 cI cB cS aL L).symm rfl rfl rfl rfl hl.1 (Nat.le_of_ble_eq_true rfl) dX3_goodShare_18 ⟨Nat.zero_le _, Nat.zero_le _⟩ (fun H locs hP hD hS => ?_)
    refine lv_i2d hx hb dX3_goodShare_21 ?_
    refine lv_iload_n hx hb dX3_goodShare_22 rfl (lv_at hl 0 rfl) ?_
    refine lv_i2d hx hb dX3_goodShare_23 ?_
    have hn3 := hF
    refine lv_ddiv hx hb dX3_goodShare_24 hn3 ?_
    subst hR
    exact krF hx hb hr hlk hP hD hS dX3_goodShare_25 rfl rfl
  · rw [if_pos c2] at hR hF
    refine lv_dconst0 hx hb dX3_goodShare_9 ?_
    refine lv_goto (tgt := 25) hx hb dX3_goodShare_10 (by decide) ?_
    subst hR
    exact krF hx hb hr hlk hP hD hS dX3_goodShare_25 rfl rfl

theorem hdX3_spare : yX3_spare.cls = RX3 ∧ yX3_spare.cls ≠ "java/lang/invoke/MethodHandle" ∧ yX3_spare.cls ≠ "java/lang/invoke/VarHandle" ∧ (parseMethodDescriptor yX3_spare.desc).map (fun d => d.parameters.length) = some 1 := by decide +kernel
def fx3_spare (L : (Nat → St)) (x1 : Int32) : Int32 × Int32 := (if x1 < (fx3_least 0) then (1, 0) else (if x1 ≤ (fx3_most 0) then (bnd (fx3_sparePulses L x1) (fun v3 => (0, v3))) else (1, 0)))
set_option maxHeartbeats 4000000 in
set_option maxRecDepth 100000 in
theorem cx3_spare {l : Launch} {D : va_G} {cI cB cS cJ : ClassId} {K : State → Prop} (EX : kEX D cI cB cS cJ K) (hfl : l.stackTraces = false) (aL : Nat → Nat → Nat) (L : (Nat → St)) (x1 : Int32) : kX l D K yX3_spare wsX3_spare 6 82 [.ref (aL 7 0), .int x1] (lsW cI cB cS aL L) ((fx3_spare L x1).1) ((fx3_spare L x1).2) (lsW cI cB cS aL L) := by
  have E := EX.1
  refine kX_of (own := RX3) (cc := cX3_spare) (maxL := 2) (tys := kty cI cB cS cJ) (fun U h => (E.2 U h).1) (by decide) rfl rfl (Nat.le_of_ble_eq_true rfl) ?_
  intro p e s m below meth c A ls hx hb hr hml hts hown hlk hKs hK hP hD hA hS hl hSt htab
  have hl : lv_has ls 2 [(0, .ref (aL 7 0)), (1, .int x1)] := hl
  have hX : CallFix p m c cX3_spare 2 s _ wsX3_spare RX3 := ⟨hx, hb, hml, hown, hts⟩
  have q1 := hts (.classLink RX3 34 "java/lang/IllegalArgumentException") (List.mem_of_getElem? (i := 1) rfl)
  have q2 := hts (.initialized "java/lang/IllegalArgumentException") (List.mem_of_getElem? (i := 2) rfl)
  generalize hR : fx3_spare L x1 = R
  rw [fx3_spare] at hR
  refine lv_iload_n hx hb dX3_spare_0 rfl (lv_at hl 1 rfl) ?_
  refine lv_iconst (v := 0) hx hb dX3_spare_1 (by decide) ?_
  refine kcsG (As := [.int 0]) (rest := [.int x1]) E.1 (cx3_least E 0) hX (va_cwS 1 hts gX3_spare_X3_least rfl rfl rfl hdX3_least.2 ⟨Nat.le_of_ble_eq_true rfl, Nat.le_of_ble_eq_true rfl⟩) hKs hP hD hS hA hSt _ _ (kw_nil _) (kw_nil _).symm rfl rfl hl.1 (Nat.le_of_ble_eq_true rfl) dX3_spare_2 ⟨Nat.zero_le _, Nat.zero_le _⟩ (fun H locs hP hD hS => ?_)
  refine lv_icmp_lt (tgt := 16) hx hb dX3_spare_5 (by decide) (fun c1 => ?_) (fun c1 => ?_)
  · rw [if_pos c1] at hR
    obtain ⟨sa, hsa⟩ := (EX.2 s hKs).1.2.2.2.2.2.2.2.2.2.2.2.2.2.2.2.2.2.2.2.1
    exact (by subst hR; exact kthrow hx hb hfl hown kXfit1 q1 q2 hsa (vx_hat (fun w h => hts w (List.mem_cons_of_mem _ (List.mem_append_right _ h))) (fun _ h => h) (fun w h => va_Nw.use (kXot1 w h) ((EX.2 s hKs).2.1 w h))) kXgood1 hSt hP hD hS (hl.1.trans hml.symm) dX3_spare_16 dX3_spare_19 dX3_spare_20 dX3_spare_22 dX3_spare_25 htab (Nat.le_of_ble_eq_true rfl) (Nat.le_of_ble_eq_true rfl) hlk kec1 kXe1)
  · rw [if_neg c1] at hR
    refine lv_iload_n hx hb dX3_spare_8 rfl (lv_at hl 1 rfl) ?_
    refine lv_iconst (v := 0) hx hb dX3_spare_9 (by decide) ?_
    refine kcsG (As := [.int 0]) (rest := [.int x1]) E.1 (cx3_most E 0) hX (va_cwS 1 hts gX3_spare_X3_most rfl rfl rfl hdX3_most.2 ⟨Nat.le_of_ble_eq_true rfl, Nat.le_of_ble_eq_true rfl⟩) hKs hP hD hS hA hSt _ _ (kw_nil _) (kw_nil _).symm rfl rfl hl.1 (Nat.le_of_ble_eq_true rfl) dX3_spare_10 ⟨Nat.zero_le _, Nat.zero_le _⟩ (fun H locs hP hD hS => ?_)
    refine lv_icmp_le (tgt := 26) hx hb dX3_spare_13 (by decide) (fun c2 => ?_) (fun c2 => ?_)
    · rw [if_pos c2] at hR
      refine lv_aload_n hx hb dX3_spare_26 rfl (lv_at hl 0 rfl) ?_
      refine lv_iload_n hx hb dX3_spare_27 rfl (lv_at hl 1 rfl) ?_
      refine kcI (ci := 3) (q0 := 0) (As := [.int x1]) (rest := []) E.1 (cx3_sparePulses EX aL L x1) hX (cwV 1 hts gX3_spare_X3_sparePulses rfl rfl rfl hdX3_sparePulses ⟨Nat.le_of_ble_eq_true rfl, Nat.le_of_ble_eq_true rfl⟩) hKs hK hP hD hS hA _ _ (kw_self _) (kw_self _).symm rfl rfl rfl rfl hl.1 (Nat.le_of_ble_eq_true rfl) dX3_spare_28 ⟨Nat.zero_le _, Nat.zero_le _⟩ (fun H locs hP hD hS => ?_)
      generalize ev3 : fx3_sparePulses L x1 = v3 at hR ⊢
      replace hR := bnd_e hR
      subst hR
      exact krX hx hb hr hlk hP hD hS dX3_spare_31 rfl rfl rfl
    · rw [if_neg c2] at hR
      obtain ⟨sa, hsa⟩ := (EX.2 s hKs).1.2.2.2.2.2.2.2.2.2.2.2.2.2.2.2.2.2.2.2.1
      exact (by subst hR; exact kthrow hx hb hfl hown kXfit1 q1 q2 hsa (vx_hat (fun w h => hts w (List.mem_cons_of_mem _ (List.mem_append_right _ h))) (fun _ h => h) (fun w h => va_Nw.use (kXot1 w h) ((EX.2 s hKs).2.1 w h))) kXgood1 hSt hP hD hS (hl.1.trans hml.symm) dX3_spare_16 dX3_spare_19 dX3_spare_20 dX3_spare_22 dX3_spare_25 htab (Nat.le_of_ble_eq_true rfl) (Nat.le_of_ble_eq_true rfl) hlk kec1 kXe1)

theorem hdX3_fastest : yX3_fastest.cls = RX3 ∧ yX3_fastest.cls ≠ "java/lang/invoke/MethodHandle" ∧ yX3_fastest.cls ≠ "java/lang/invoke/VarHandle" ∧ (parseMethodDescriptor yX3_fastest.desc).map (fun d => d.parameters.length) = some 0 := by decide +kernel
def fx3_fastest_L5 (L : (Nat → St)) : Nat → Int32 → Int32 × Int32
  | 0, _ => (0, 0)
  | n5 + 1, y1 => (if y1 < (fx3_least 0) then (0, (-1)) else (bnd (fx3_sparePulses L y1) (fun v6002 => (if v6002 ≤ 0 then fx3_fastest_L5 L n5 (y1 + (-1)) else (0, y1)))))
def sx3_fastest_L5 (L : (Nat → St)) : Nat → Int32 → Prop
  | 0, _ => False
  | n5 + 1, y1 => (if y1 < (fx3_least 0) then True else (bnd (fx3_sparePulses L y1) (fun v6002 => (if v6002 ≤ 0 then sx3_fastest_L5 L n5 (y1 + (-1)) else True))))
def fx3_fastest (L : (Nat → St)) : Int32 × Int32 := fx3_fastest_L5 L kfu (fx3_most 0)
def sx3_fastest (L : (Nat → St)) : Prop := sx3_fastest_L5 L kfu (fx3_most 0)
set_option maxHeartbeats 4000000 in
set_option maxRecDepth 100000 in
theorem cx3_fastest {l : Launch} {D : va_G} {cI cB cS cJ : ClassId} {K : State → Prop} (EX : kEX D cI cB cS cJ K) (hfl : l.stackTraces = false) (aL : Nat → Nat → Nat) (L : (Nat → St)) (hF : sx3_fastest L) : kX l D K yX3_fastest wsX3_fastest 2 43 [.ref (aL 7 0)] (lsW cI cB cS aL L) ((fx3_fastest L).1) ((fx3_fastest L).2) (lsW cI cB cS aL L) := by
  have E := EX.1
  refine kX_of (own := RX3) (cc := cX3_fastest) (maxL := 2) (tys := kty cI cB cS cJ) (fun U h => (E.2 U h).1) (by decide) rfl rfl (Nat.le_of_ble_eq_true rfl) ?_
  intro p e s m below meth c A ls hx hb hr hml hts hown hlk hKs hK hP hD hA hS hl hSt htab
  have hl : lv_has ls 2 [(0, .ref (aL 7 0))] := hl
  have hX : CallFix p m c cX3_fastest 2 s _ wsX3_fastest RX3 := ⟨hx, hb, hml, hown, hts⟩
  generalize hR : fx3_fastest L = R
  rw [fx3_fastest] at hR
  rw [sx3_fastest] at hF
  refine lv_iconst (v := 0) hx hb dX3_fastest_0 (by decide) ?_
  refine kcsG (As := [.int 0]) (rest := []) E.1 (cx3_most E 0) hX (va_cwS 1 hts gX3_fastest_X3_most rfl rfl rfl hdX3_most.2 ⟨Nat.le_of_ble_eq_true rfl, Nat.le_of_ble_eq_true rfl⟩) hKs hP hD hS hA hSt _ _ (kw_nil _) (kw_nil _).symm rfl rfl hl.1 (Nat.le_of_ble_eq_true rfl) dX3_fastest_1 ⟨Nat.zero_le _, Nat.zero_le _⟩ (fun H locs hP hD hS => ?_)
  refine lv_istore_n (lv' := [(1, .int (fx3_most 0)), (0, .ref (aL 7 0))]) hx hb dX3_fastest_4 rfl hl (by decide) rfl (fun ls hl => ?_)
  have loop5 : ∀ (n5 : Nat) (y1 : Int32) (H : Heap) (locs : List Loc) (ls : Array Slot), fx3_fastest_L5 L n5 y1 = R → sx3_fastest_L5 L n5 y1 → va_P D vwCl (lsW cI cB cS aL L) H → va_D A (lsW cI cB cS aL L) → va_S A s.heap H locs → lv_has ls 2 [(1, .int y1), (0, .ref (aL 7 0))] → W p l e (kRmX 2 43) s m ([.ref (aL 7 0)] : List Value).toArray below meth c H locs 0 0 (kQX D below R.1 R.2 (lsW cI cB cS aL L) (lsW cI cB cS aL L) A ([.ref (aL 7 0)] : List Value).toArray s) (F0 m 5 ls []) := by
    intro n5
    induction n5 with
    | zero => intro y1 H locs ls hR hF; exact hF.elim
    | succ n5 ih5 =>
      intro y1 H locs ls hR hF hP hD hS hl
      rw [fx3_fastest_L5] at hR
      rw [sx3_fastest_L5] at hF
      refine lv_iload_n hx hb dX3_fastest_5 rfl (lv_at hl 0 rfl) ?_
      refine lv_iconst (v := 0) hx hb dX3_fastest_6 (by decide) ?_
      refine kcsG (As := [.int 0]) (rest := [.int y1]) E.1 (cx3_least E 0) hX (va_cwS 1 hts gX3_fastest_X3_least rfl rfl rfl hdX3_least.2 ⟨Nat.le_of_ble_eq_true rfl, Nat.le_of_ble_eq_true rfl⟩) hKs hP hD hS hA hSt _ _ (kw_nil _) (kw_nil _).symm rfl rfl hl.1 (Nat.le_of_ble_eq_true rfl) dX3_fastest_7 ⟨Nat.zero_le _, Nat.zero_le _⟩ (fun H locs hP hD hS => ?_)
      refine lv_icmp_lt (tgt := 29) hx hb dX3_fastest_10 (by decide) (fun c6001 => ?_) (fun c6001 => ?_)
      · rw [if_pos c6001] at hR hF
        refine lv_iconst (v := (-1)) hx hb dX3_fastest_29 (by decide) ?_
        subst hR
        exact krX hx hb hr hlk hP hD hS dX3_fastest_30 rfl rfl rfl
      · rw [if_neg c6001] at hR hF
        refine lv_aload_n hx hb dX3_fastest_13 rfl (lv_at hl 1 rfl) ?_
        refine lv_iload_n hx hb dX3_fastest_14 rfl (lv_at hl 0 rfl) ?_
        refine kcI (ci := 3) (q0 := 0) (As := [.int y1]) (rest := []) E.1 (cx3_sparePulses EX aL L y1) hX (cwV 1 hts gX3_fastest_X3_sparePulses rfl rfl rfl hdX3_sparePulses ⟨Nat.le_of_ble_eq_true rfl, Nat.le_of_ble_eq_true rfl⟩) hKs hK hP hD hS hA _ _ (kw_self _) (kw_self _).symm rfl rfl rfl rfl hl.1 (Nat.le_of_ble_eq_true rfl) dX3_fastest_15 ⟨Nat.zero_le _, Nat.zero_le _⟩ (fun H locs hP hD hS => ?_)
        generalize ev6002 : fx3_sparePulses L y1 = v6002 at hR hF ⊢
        replace hR := bnd_e hR
        replace hF := bnd_p hF
        refine lv_if_le (tgt := 23) hx hb dX3_fastest_18 (by decide) (fun c6003 => ?_) (fun c6003 => ?_)
        · rw [if_pos c6003] at hR hF
          refine lv_iinc (v := y1 + (-1)) (lv' := [(1, .int (y1 + (-1))), (0, .ref (aL 7 0))]) hx hb dX3_fastest_23 hl (k := 0) rfl rfl (by decide) rfl (fun ls hl => ?_)
          refine lv_goto (tgt := 5) hx hb dX3_fastest_26 (by decide) ?_
          exact ih5 (y1 + (-1)) _ _ ls hR hF hP hD hS (lv_sub hl [0, 1] rfl)
        · rw [if_neg c6003] at hR hF
          refine lv_iload_n hx hb dX3_fastest_21 rfl (lv_at hl 0 rfl) ?_
          subst hR
          exact krX hx hb hr hlk hP hD hS dX3_fastest_22 rfl rfl rfl
  exact loop5 kfu (fx3_most 0) _ _ ls hR hF hP hD hS (lv_sub hl [0, 1] rfl)

theorem hdX3_fate : yX3_fate.cls = RX3 ∧ yX3_fate.cls ≠ "java/lang/invoke/MethodHandle" ∧ yX3_fate.cls ≠ "java/lang/invoke/VarHandle" ∧ (parseMethodDescriptor yX3_fate.desc).map (fun d => d.parameters.length) = some 1 := by decide +kernel
def fx3_fate_L68 : Nat → Int32 → Int32 → (Nat → St) → Int32 × Int32 × ((Nat → St))
  | 0, _, _, Ly => (0, 0, Ly)
  | n68 + 1, y1, y2, Ly => (if 1000 ≤ y2 then (0, (Ly 1) 3 7, Ly) else (if ((Ly 1) 3 1) = 0 then (0, (Ly 1) 3 7, Ly) else (if ((Ly 1) 3 7) = 0 then (bnd (va_up Ly 1 (fx1_passTick (Ly 1))) (fun L69004 => fx3_fate_L68 n68 y1 (y2 + 1) L69004)) else (0, (Ly 1) 3 7, Ly))))
def sx3_fate_L68 : Nat → Int32 → Int32 → (Nat → St) → Prop
  | 0, _, _, _ => False
  | n68 + 1, y1, y2, Ly => (if 1000 ≤ y2 then True else (if ((Ly 1) 3 1) = 0 then True else (if ((Ly 1) 3 7) = 0 then (sx1_passTick (Ly 1) ∧ (bnd (va_up Ly 1 (fx1_passTick (Ly 1))) (fun L69004 => sx3_fate_L68 n68 y1 (y2 + 1) L69004))) else True)))
def fx3_fate (L : (Nat → St)) (x1 : Int32) : Int32 × Int32 × ((Nat → St)) := (bnd (fx2_find 6 35 210 (stT (L 0) 1) x1) (fun v1 => (if v1 = (-1) then (3, 0, L) else (bnd (va_up L 1 (fx1_copyFrom (L 0) (L 1))) (fun L3 => (bnd (va_up L3 1 (fx1_watch (L3 1) x1)) (fun L4 => (if ((L4 1) 3 2) = 0 then (bnd (va_up L4 1 (sset (L4 1) 3 1 1)) (fun L6 => fx3_fate_L68 kfu x1 0 L6)) else (bnd (va_up L4 1 (sset (L4 1) 3 1 0)) (fun L7 => fx3_fate_L68 kfu x1 0 L7))))))))))
def sx3_fate (L : (Nat → St)) (x1 : Int32) : Prop := (sx2_find 6 35 210 (stT (L 0) 1) x1 ∧ (bnd (fx2_find 6 35 210 (stT (L 0) 1) x1) (fun v1 => (if v1 = (-1) then True else (sx1_copyFrom (L 0) (L 1) ∧ (bnd (va_up L 1 (fx1_copyFrom (L 0) (L 1))) (fun L3 => (bnd (va_up L3 1 (fx1_watch (L3 1) x1)) (fun L4 => (if ((L4 1) 3 2) = 0 then (bnd (va_up L4 1 (sset (L4 1) 3 1 1)) (fun L6 => sx3_fate_L68 kfu x1 0 L6)) else (bnd (va_up L4 1 (sset (L4 1) 3 1 0)) (fun L7 => sx3_fate_L68 kfu x1 0 L7))))))))))))
set_option maxHeartbeats 4000000 in
set_option maxRecDepth 100000 in
theorem cx3_fate {l : Launch} {D : va_G} {cI cB cS cJ : ClassId} {K : State → Prop} (EX : kEX D cI cB cS cJ K) (hfl : l.stackTraces = false) (aL : Nat → Nat → Nat) (L : (Nat → St)) (x1 : Int32) (hF : sx3_fate L x1) : kX l D K yX3_fate wsX3_fate 6 140 [.ref (aL 7 0), .int x1] (lsW cI cB cS aL L) ((fx3_fate L x1).1) ((fx3_fate L x1).2.1) (lsW cI cB cS aL ((fx3_fate L x1).2.2)) := by
  have E := EX.1
  refine kX_of (own := RX3) (cc := cX3_fate) (maxL := 3) (tys := kty cI cB cS cJ) (fun U h => (E.2 U h).1) (by decide) rfl rfl (Nat.le_of_ble_eq_true rfl) ?_
  intro p e s m below meth c A ls hx hb hr hml hts hown hlk hKs hK hP hD hA hS hl hSt htab
  have hl : lv_has ls 3 [(0, .ref (aL 7 0)), (1, .int x1)] := hl
  have hX : CallFix p m c cX3_fate 3 s _ wsX3_fate RX3 := ⟨hx, hb, hml, hown, hts⟩
  have hinX1 : ∀ w ∈ wsX10, w ∈ wsX3_fate := fun w h => List.mem_cons_of_mem _ (List.mem_append_left _ (List.mem_append_left _ (List.mem_append_right _ h)))
  have hinX3 : ∀ w ∈ wsX30, w ∈ wsX3_fate := fun w h => List.mem_cons_of_mem _ (List.mem_append_left _ (List.mem_append_left _ (List.mem_append_left _ (List.mem_append_right _ h))))
  have q1 := hts (.classLink RX3 129 "java/util/NoSuchElementException") (List.mem_of_getElem? (i := 1) rfl)
  have q2 := hts (.initialized "java/util/NoSuchElementException") (List.mem_of_getElem? (i := 2) rfl)
  have q3 := hts (.fieldLink RX3 10 "LabelStation" "state" "LLabelStation$State;") (List.mem_of_getElem? (i := 3) rfl)
  have q4 := hts (.fieldLink RX3 16 "LabelStation" "trial" "LLabelStation$State;") (List.mem_of_getElem? (i := 4) rfl)
  generalize hR : fx3_fate L x1 = R
  rw [fx3_fate] at hR
  rw [sx3_fate] at hF
  refine lv_aload_n hx hb dX3_fate_0 rfl (lv_at hl 0 rfl) ?_
  refine va_get (D := D) (ci := 3) (v := .ref (aL 0 0)) (C := RX3) (T := TX3) (N := 5) hx hb hts hinX3 hown hK hP 0 rfl rfl 0 (by decide) q3 (fun _ h9 => h9) rfl dX3_fate_1 ?_
  refine va_getN (D := D) (ci := 1) (v := .ref (aL 0 6)) (C := RX1) (T := TX1) (N := 16) hx hb hts hinX1 hown hK hP 15 rfl rfl 4 (by decide) (va_Nw.use rfl ((E.2 s hKs).2.2.1)) (fun _ h9 => h9) rfl dX3_fate_4 ?_
  refine lv_iload_n hx hb dX3_fate_7 rfl (lv_at hl 1 rfl) ?_
  obtain ⟨hs9, hF⟩ := hF
  refine kcI (ci := 2) (q0 := 0) (As := [.int x1]) (rest := []) E.1 (cx2_find E (aL 0 6) (aL 0 7) 6 35 210 (by decide) (stT (L 0) 1) x1 hs9) hX (cwV 1 hts gX3_fate_X2_find rfl rfl rfl hdX2_find ⟨Nat.le_of_ble_eq_true rfl, Nat.le_of_ble_eq_true rfl⟩) hKs hK hP hD hS hA _ _ (ls_tb1 cI cB cS aL L) (ls_tb1 cI cB cS aL L).symm rfl rfl rfl rfl hl.1 (Nat.le_of_ble_eq_true rfl) dX3_fate_8 ⟨Nat.zero_le _, Nat.zero_le _⟩ (fun H locs hP hD hS => ?_)
  generalize ev1 : fx2_find 6 35 210 (stT (L 0) 1) x1 = v1 at hR hF ⊢
  replace hR := bnd_e hR
  replace hF := bnd_p hF
  refine lv_iconst (v := (-1)) hx hb dX3_fate_11 (by decide) ?_
  refine lv_icmp_ne (tgt := 25) hx hb dX3_fate_12 (by decide) (fun c2 => ?_) (fun c2 => ?_)
  · rw [if_neg c2] at hR hF
    refine lv_aload_n hx hb dX3_fate_25 rfl (lv_at hl 0 rfl) ?_
    refine va_get (D := D) (ci := 3) (v := .ref (aL 1 0)) (C := RX3) (T := TX3) (N := 5) hx hb hts hinX3 hown hK hP 0 rfl rfl 1 (by decide) q4 (fun _ h9 => h9) rfl dX3_fate_26 ?_
    refine lv_aload_n hx hb dX3_fate_29 rfl (lv_at hl 0 rfl) ?_
    refine va_get (D := D) (ci := 3) (v := .ref (aL 0 0)) (C := RX3) (T := TX3) (N := 5) hx hb hts hinX3 hown hK hP 0 rfl rfl 0 (by decide) q3 (fun _ h9 => h9) rfl dX3_fate_30 ?_
    obtain ⟨hs8, hF⟩ := hF
    refine kcV (ci := 1) (q0 := 0) (As := [.ref (aL 0 0)]) (rest := []) E.1 (cx1_copyFrom E (aL 1) (aL 0) (L 0) (L 1) hs8) hX (cwV 1 hts gX3_fate_X1_copyFrom rfl rfl rfl hdX1_copyFrom ⟨Nat.le_of_ble_eq_true rfl, Nat.le_of_ble_eq_true rfl⟩) hKs hK hP hD hS hA _ _ (ls_cp cI cB cS aL L) (ls_cp' cI cB cS aL L _) rfl rfl rfl rfl hl.1 (Nat.le_of_ble_eq_true rfl) dX3_fate_33 ⟨Nat.zero_le _, Nat.zero_le _⟩ (fun H locs hP hD hS => ?_)
    have hP : va_P D vwCl (lsW cI cB cS aL (va_up L 1 (fx1_copyFrom (L 0) (L 1)))) H := hP
    have hD : va_D A (lsW cI cB cS aL (va_up L 1 (fx1_copyFrom (L 0) (L 1)))) := hD
    obtain ⟨L3, hR, hF, hP, hD⟩ := kgenF (P := fun X9 => va_P D vwCl (lsW cI cB cS aL X9) H ∧ va_D A (lsW cI cB cS aL X9)) hR hF ⟨hP, hD⟩
    refine lv_aload_n hx hb dX3_fate_36 rfl (lv_at hl 0 rfl) ?_
    refine va_get (D := D) (ci := 3) (v := .ref (aL 1 0)) (C := RX3) (T := TX3) (N := 5) hx hb hts hinX3 hown hK hP 0 rfl rfl 1 (by decide) q4 (fun _ h9 => h9) rfl dX3_fate_37 ?_
    refine lv_iload_n hx hb dX3_fate_40 rfl (lv_at hl 1 rfl) ?_
    refine kcV (ci := 1) (q0 := 0) (As := [.int x1]) (rest := []) E.1 (cx1_watch E (aL 1) (L3 1) x1) hX (cwV 1 hts gX3_fate_X1_watch rfl rfl rfl hdX1_watch ⟨Nat.le_of_ble_eq_true rfl, Nat.le_of_ble_eq_true rfl⟩) hKs hK hP hD hS hA _ _ (ls_st1 cI cB cS aL L3) (ls_st1' cI cB cS aL L3 _) rfl rfl rfl rfl hl.1 (Nat.le_of_ble_eq_true rfl) dX3_fate_41 ⟨Nat.zero_le _, Nat.zero_le _⟩ (fun H locs hP hD hS => ?_)
    have hP : va_P D vwCl (lsW cI cB cS aL (va_up L3 1 (fx1_watch (L3 1) x1))) H := hP
    have hD : va_D A (lsW cI cB cS aL (va_up L3 1 (fx1_watch (L3 1) x1))) := hD
    obtain ⟨L4, hR, hF, hP, hD⟩ := kgenF (P := fun X9 => va_P D vwCl (lsW cI cB cS aL X9) H ∧ va_D A (lsW cI cB cS aL X9)) hR hF ⟨hP, hD⟩
    refine lv_aload_n hx hb dX3_fate_44 rfl (lv_at hl 0 rfl) ?_
    refine va_get (D := D) (ci := 3) (v := .ref (aL 1 0)) (C := RX3) (T := TX3) (N := 5) hx hb hts hinX3 hown hK hP 0 rfl rfl 1 (by decide) q4 (fun _ h9 => h9) rfl dX3_fate_45 ?_
    refine lv_aload_n hx hb dX3_fate_48 rfl (lv_at hl 0 rfl) ?_
    refine va_get (D := D) (ci := 3) (v := .ref (aL 1 0)) (C := RX3) (T := TX3) (N := 5) hx hb hts hinX3 hown hK hP 0 rfl rfl 1 (by decide) q4 (fun _ h9 => h9) rfl dX3_fate_49 ?_
    refine va_getN (D := D) (ci := 1) (v := .int ((L4 1) 3 2)) (C := RX1) (T := TX1) (N := 16) hx hb hts hinX1 hown hK hP 1 rfl rfl 10 (by decide) (va_Nw.use rfl ((E.2 s hKs).2.2.2.2.2.1)) (fun _ h9 => h9) rfl dX3_fate_52 ?_
    refine lv_if_ne (tgt := 62) hx hb dX3_fate_55 (by decide) (fun c5 => ?_) (fun c5 => ?_)
    · rw [if_neg c5] at hR hF
      refine lv_iconst (v := 0) hx hb dX3_fate_62 (by decide) ?_
      refine va_putN (D := D) (ci := 1) (v := .int 0) (ty := .boolean) (C := RX1) (T := TX1) (N := 16) hx hb hts hinX1 tyX1 tyX1_ok nmX1 hown hK hP hD hS 1 rfl rfl 9 (by decide) (va_Nw.use rfl ((E.2 s hKs).2.2.2.2.1)) (fun _ h9 => h9) rfl (by decide +kernel) rfl rfl (Nat.le_of_ble_eq_true rfl) dX3_fate_63 (fun H locs hP hD hS => ?_)
      have hP : va_P D vwCl (lsW cI cB cS aL (va_up L4 1 (sset (L4 1) 3 1 0))) H := hP
      have hD : va_D A (lsW cI cB cS aL (va_up L4 1 (sset (L4 1) 3 1 0))) := hD
      obtain ⟨L7, hR, hF, hP, hD⟩ := kgenF (P := fun X9 => va_P D vwCl (lsW cI cB cS aL X9) H ∧ va_D A (lsW cI cB cS aL X9)) hR hF ⟨hP, hD⟩
      refine lv_iconst (v := 0) hx hb dX3_fate_66 (by decide) ?_
      refine lv_istore_n (lv' := [(2, .int 0), (0, .ref (aL 7 0)), (1, .int x1)]) hx hb dX3_fate_67 rfl hl (by decide) rfl (fun ls hl => ?_)
      have loop68 : ∀ (n68 : Nat) (y1 : Int32) (y2 : Int32) (Ly : (Nat → St)) (H : Heap) (locs : List Loc) (ls : Array Slot), fx3_fate_L68 n68 y1 y2 Ly = R → sx3_fate_L68 n68 y1 y2 Ly → va_P D vwCl (lsW cI cB cS aL Ly) H → va_D A (lsW cI cB cS aL Ly) → va_S A s.heap H locs → lv_has ls 3 [(1, .int y1), (2, .int y2), (0, .ref (aL 7 0))] → W p l e (kRmX 6 140) s m ([.ref (aL 7 0), .int x1] : List Value).toArray below meth c H locs 0 0 (kQX D below R.1 R.2.1 (lsW cI cB cS aL R.2.2) (lsW cI cB cS aL L) A ([.ref (aL 7 0), .int x1] : List Value).toArray s) (F0 m 68 ls []) := by
        intro n68
        induction n68 with
        | zero => intro y1 y2 Ly H locs ls hR hF; exact hF.elim
        | succ n68 ih68 =>
          intro y1 y2 Ly H locs ls hR hF hP hD hS hl
          rw [fx3_fate_L68] at hR
          rw [sx3_fate_L68] at hF
          refine lv_iload_n hx hb dX3_fate_68 rfl (lv_at hl 1 rfl) ?_
          refine lv_sipush (v := 1000) hx hb dX3_fate_69 (by decide) ?_
          refine lv_icmp_ge (tgt := 108) hx hb dX3_fate_72 (by decide) (fun c69001 => ?_) (fun c69001 => ?_)
          · rw [if_pos c69001] at hR hF
            refine lv_aload_n hx hb dX3_fate_108 rfl (lv_at hl 2 rfl) ?_
            refine va_get (D := D) (ci := 3) (v := .ref (aL 1 0)) (C := RX3) (T := TX3) (N := 5) hx hb hts hinX3 hown hK hP 0 rfl rfl 1 (by decide) q4 (fun _ h9 => h9) rfl dX3_fate_109 ?_
            refine va_getN (D := D) (ci := 1) (v := .int ((Ly 1) 3 7)) (C := RX1) (T := TX1) (N := 16) hx hb hts hinX1 hown hK hP 1 rfl rfl 15 (by decide) (va_Nw.use rfl ((E.2 s hKs).2.2.2.2.2.2.2.2)) (fun _ h9 => h9) rfl dX3_fate_112 ?_
            subst hR
            exact krX hx hb hr hlk hP hD hS dX3_fate_115 rfl rfl rfl
          · rw [if_neg c69001] at hR hF
            refine lv_aload_n hx hb dX3_fate_75 rfl (lv_at hl 2 rfl) ?_
            refine va_get (D := D) (ci := 3) (v := .ref (aL 1 0)) (C := RX3) (T := TX3) (N := 5) hx hb hts hinX3 hown hK hP 0 rfl rfl 1 (by decide) q4 (fun _ h9 => h9) rfl dX3_fate_76 ?_
            refine va_getN (D := D) (ci := 1) (v := .int ((Ly 1) 3 1)) (C := RX1) (T := TX1) (N := 16) hx hb hts hinX1 hown hK hP 1 rfl rfl 9 (by decide) (va_Nw.use rfl ((E.2 s hKs).2.2.2.2.1)) (fun _ h9 => h9) rfl dX3_fate_79 ?_
            refine lv_if_eq (tgt := 108) hx hb dX3_fate_82 (by decide) (fun c69002 => ?_) (fun c69002 => ?_)
            · rw [if_pos c69002] at hR hF
              refine lv_aload_n hx hb dX3_fate_108 rfl (lv_at hl 2 rfl) ?_
              refine va_get (D := D) (ci := 3) (v := .ref (aL 1 0)) (C := RX3) (T := TX3) (N := 5) hx hb hts hinX3 hown hK hP 0 rfl rfl 1 (by decide) q4 (fun _ h9 => h9) rfl dX3_fate_109 ?_
              refine va_getN (D := D) (ci := 1) (v := .int ((Ly 1) 3 7)) (C := RX1) (T := TX1) (N := 16) hx hb hts hinX1 hown hK hP 1 rfl rfl 15 (by decide) (va_Nw.use rfl ((E.2 s hKs).2.2.2.2.2.2.2.2)) (fun _ h9 => h9) rfl dX3_fate_112 ?_
              subst hR
              exact krX hx hb hr hlk hP hD hS dX3_fate_115 rfl rfl rfl
            · rw [if_neg c69002] at hR hF
              refine lv_aload_n hx hb dX3_fate_85 rfl (lv_at hl 2 rfl) ?_
              refine va_get (D := D) (ci := 3) (v := .ref (aL 1 0)) (C := RX3) (T := TX3) (N := 5) hx hb hts hinX3 hown hK hP 0 rfl rfl 1 (by decide) q4 (fun _ h9 => h9) rfl dX3_fate_86 ?_
              refine va_getN (D := D) (ci := 1) (v := .int ((Ly 1) 3 7)) (C := RX1) (T := TX1) (N := 16) hx hb hts hinX1 hown hK hP 1 rfl rfl 15 (by decide) (va_Nw.use rfl ((E.2 s hKs).2.2.2.2.2.2.2.2)) (fun _ h9 => h9) rfl dX3_fate_89 ?_
              refine lv_if_ne (tgt := 108) hx hb dX3_fate_92 (by decide) (fun c69003 => ?_) (fun c69003 => ?_)
              · rw [if_neg c69003] at hR hF
                refine lv_aload_n hx hb dX3_fate_108 rfl (lv_at hl 2 rfl) ?_
                refine va_get (D := D) (ci := 3) (v := .ref (aL 1 0)) (C := RX3) (T := TX3) (N := 5) hx hb hts hinX3 hown hK hP 0 rfl rfl 1 (by decide) q4 (fun _ h9 => h9) rfl dX3_fate_109 ?_
                refine va_getN (D := D) (ci := 1) (v := .int ((Ly 1) 3 7)) (C := RX1) (T := TX1) (N := 16) hx hb hts hinX1 hown hK hP 1 rfl rfl 15 (by decide) (va_Nw.use rfl ((E.2 s hKs).2.2.2.2.2.2.2.2)) (fun _ h9 => h9) rfl dX3_fate_112 ?_
                subst hR
                exact krX hx hb hr hlk hP hD hS dX3_fate_115 rfl rfl rfl
              · rw [if_pos c69003] at hR hF
                refine lv_aload_n hx hb dX3_fate_95 rfl (lv_at hl 2 rfl) ?_
                refine va_get (D := D) (ci := 3) (v := .ref (aL 1 0)) (C := RX3) (T := TX3) (N := 5) hx hb hts hinX3 hown hK hP 0 rfl rfl 1 (by decide) q4 (fun _ h9 => h9) rfl dX3_fate_96 ?_
                obtain ⟨hs69005, hF⟩ := hF
                refine kcV (ci := 1) (q0 := 0) (As := []) (rest := []) E.1 (cx1_passTick E (aL 1) (Ly 1) hs69005) hX (cwV 0 hts gX3_fate_X1_passTick rfl rfl rfl hdX1_passTick ⟨Nat.le_of_ble_eq_true rfl, Nat.le_of_ble_eq_true rfl⟩) hKs hK hP hD hS hA _ _ (ls_st1 cI cB cS aL Ly) (ls_st1' cI cB cS aL Ly _) rfl rfl rfl rfl hl.1 (Nat.le_of_ble_eq_true rfl) dX3_fate_99 ⟨Nat.zero_le _, Nat.zero_le _⟩ (fun H locs hP hD hS => ?_)
                have hP : va_P D vwCl (lsW cI cB cS aL (va_up Ly 1 (fx1_passTick (Ly 1)))) H := hP
                have hD : va_D A (lsW cI cB cS aL (va_up Ly 1 (fx1_passTick (Ly 1)))) := hD
                obtain ⟨L69004, hR, hF, hP, hD⟩ := kgenF (P := fun X9 => va_P D vwCl (lsW cI cB cS aL X9) H ∧ va_D A (lsW cI cB cS aL X9)) hR hF ⟨hP, hD⟩
                refine lv_iinc (v := y2 + 1) (lv' := [(2, .int (y2 + 1)), (1, .int y1), (0, .ref (aL 7 0))]) hx hb dX3_fate_102 hl (k := 1) rfl rfl (by decide) rfl (fun ls hl => ?_)
                refine lv_goto (tgt := 68) hx hb dX3_fate_105 (by decide) ?_
                exact ih68 y1 (y2 + 1) L69004 _ _ ls hR hF hP hD hS (lv_sub hl [1, 0, 2] rfl)
      exact loop68 kfu x1 0 L7 _ _ ls hR hF hP hD hS (lv_sub hl [2, 0, 1] rfl)
    · rw [if_pos c5] at hR hF
      refine lv_iconst (v := 1) hx hb dX3_fate_58 (by decide) ?_
      refine lv_goto (tgt := 63) hx hb dX3_fate_59 (by decide) ?_
      refine va_putN (D := D) (ci := 1) (v := .int 1) (ty := .boolean) (C := RX1) (T := TX1) (N := 16) hx hb hts hinX1 tyX1 tyX1_ok nmX1 hown hK hP hD hS 1 rfl rfl 9 (by decide) (va_Nw.use rfl ((E.2 s hKs).2.2.2.2.1)) (fun _ h9 => h9) rfl (by decide +kernel) rfl rfl (Nat.le_of_ble_eq_true rfl) dX3_fate_63 (fun H locs hP hD hS => ?_)
      have hP : va_P D vwCl (lsW cI cB cS aL (va_up L4 1 (sset (L4 1) 3 1 1))) H := hP
      have hD : va_D A (lsW cI cB cS aL (va_up L4 1 (sset (L4 1) 3 1 1))) := hD
      obtain ⟨L6, hR, hF, hP, hD⟩ := kgenF (P := fun X9 => va_P D vwCl (lsW cI cB cS aL X9) H ∧ va_D A (lsW cI cB cS aL X9)) hR hF ⟨hP, hD⟩
      refine lv_iconst (v := 0) hx hb dX3_fate_66 (by decide) ?_
      refine lv_istore_n (lv' := [(2, .int 0), (0, .ref (aL 7 0)), (1, .int x1)]) hx hb dX3_fate_67 rfl hl (by decide) rfl (fun ls hl => ?_)
      have loop68 : ∀ (n68 : Nat) (y1 : Int32) (y2 : Int32) (Ly : (Nat → St)) (H : Heap) (locs : List Loc) (ls : Array Slot), fx3_fate_L68 n68 y1 y2 Ly = R → sx3_fate_L68 n68 y1 y2 Ly → va_P D vwCl (lsW cI cB cS aL Ly) H → va_D A (lsW cI cB cS aL Ly) → va_S A s.heap H locs → lv_has ls 3 [(1, .int y1), (2, .int y2), (0, .ref (aL 7 0))] → W p l e (kRmX 6 140) s m ([.ref (aL 7 0), .int x1] : List Value).toArray below meth c H locs 0 0 (kQX D below R.1 R.2.1 (lsW cI cB cS aL R.2.2) (lsW cI cB cS aL L) A ([.ref (aL 7 0), .int x1] : List Value).toArray s) (F0 m 68 ls []) := by
        intro n68
        induction n68 with
        | zero => intro y1 y2 Ly H locs ls hR hF; exact hF.elim
        | succ n68 ih68 =>
          intro y1 y2 Ly H locs ls hR hF hP hD hS hl
          rw [fx3_fate_L68] at hR
          rw [sx3_fate_L68] at hF
          refine lv_iload_n hx hb dX3_fate_68 rfl (lv_at hl 1 rfl) ?_
          refine lv_sipush (v := 1000) hx hb dX3_fate_69 (by decide) ?_
          refine lv_icmp_ge (tgt := 108) hx hb dX3_fate_72 (by decide) (fun c69001 => ?_) (fun c69001 => ?_)
          · rw [if_pos c69001] at hR hF
            refine lv_aload_n hx hb dX3_fate_108 rfl (lv_at hl 2 rfl) ?_
            refine va_get (D := D) (ci := 3) (v := .ref (aL 1 0)) (C := RX3) (T := TX3) (N := 5) hx hb hts hinX3 hown hK hP 0 rfl rfl 1 (by decide) q4 (fun _ h9 => h9) rfl dX3_fate_109 ?_
            refine va_getN (D := D) (ci := 1) (v := .int ((Ly 1) 3 7)) (C := RX1) (T := TX1) (N := 16) hx hb hts hinX1 hown hK hP 1 rfl rfl 15 (by decide) (va_Nw.use rfl ((E.2 s hKs).2.2.2.2.2.2.2.2)) (fun _ h9 => h9) rfl dX3_fate_112 ?_
            subst hR
            exact krX hx hb hr hlk hP hD hS dX3_fate_115 rfl rfl rfl
          · rw [if_neg c69001] at hR hF
            refine lv_aload_n hx hb dX3_fate_75 rfl (lv_at hl 2 rfl) ?_
            refine va_get (D := D) (ci := 3) (v := .ref (aL 1 0)) (C := RX3) (T := TX3) (N := 5) hx hb hts hinX3 hown hK hP 0 rfl rfl 1 (by decide) q4 (fun _ h9 => h9) rfl dX3_fate_76 ?_
            refine va_getN (D := D) (ci := 1) (v := .int ((Ly 1) 3 1)) (C := RX1) (T := TX1) (N := 16) hx hb hts hinX1 hown hK hP 1 rfl rfl 9 (by decide) (va_Nw.use rfl ((E.2 s hKs).2.2.2.2.1)) (fun _ h9 => h9) rfl dX3_fate_79 ?_
            refine lv_if_eq (tgt := 108) hx hb dX3_fate_82 (by decide) (fun c69002 => ?_) (fun c69002 => ?_)
            · rw [if_pos c69002] at hR hF
              refine lv_aload_n hx hb dX3_fate_108 rfl (lv_at hl 2 rfl) ?_
              refine va_get (D := D) (ci := 3) (v := .ref (aL 1 0)) (C := RX3) (T := TX3) (N := 5) hx hb hts hinX3 hown hK hP 0 rfl rfl 1 (by decide) q4 (fun _ h9 => h9) rfl dX3_fate_109 ?_
              refine va_getN (D := D) (ci := 1) (v := .int ((Ly 1) 3 7)) (C := RX1) (T := TX1) (N := 16) hx hb hts hinX1 hown hK hP 1 rfl rfl 15 (by decide) (va_Nw.use rfl ((E.2 s hKs).2.2.2.2.2.2.2.2)) (fun _ h9 => h9) rfl dX3_fate_112 ?_
              subst hR
              exact krX hx hb hr hlk hP hD hS dX3_fate_115 rfl rfl rfl
            · rw [if_neg c69002] at hR hF
              refine lv_aload_n hx hb dX3_fate_85 rfl (lv_at hl 2 rfl) ?_
              refine va_get (D := D) (ci := 3) (v := .ref (aL 1 0)) (C := RX3) (T := TX3) (N := 5) hx hb hts hinX3 hown hK hP 0 rfl rfl 1 (by decide) q4 (fun _ h9 => h9) rfl dX3_fate_86 ?_
              refine va_getN (D := D) (ci := 1) (v := .int ((Ly 1) 3 7)) (C := RX1) (T := TX1) (N := 16) hx hb hts hinX1 hown hK hP 1 rfl rfl 15 (by decide) (va_Nw.use rfl ((E.2 s hKs).2.2.2.2.2.2.2.2)) (fun _ h9 => h9) rfl dX3_fate_89 ?_
              refine lv_if_ne (tgt := 108) hx hb dX3_fate_92 (by decide) (fun c69003 => ?_) (fun c69003 => ?_)
              · rw [if_neg c69003] at hR hF
                refine lv_aload_n hx hb dX3_fate_108 rfl (lv_at hl 2 rfl) ?_
                refine va_get (D := D) (ci := 3) (v := .ref (aL 1 0)) (C := RX3) (T := TX3) (N := 5) hx hb hts hinX3 hown hK hP 0 rfl rfl 1 (by decide) q4 (fun _ h9 => h9) rfl dX3_fate_109 ?_
                refine va_getN (D := D) (ci := 1) (v := .int ((Ly 1) 3 7)) (C := RX1) (T := TX1) (N := 16) hx hb hts hinX1 hown hK hP 1 rfl rfl 15 (by decide) (va_Nw.use rfl ((E.2 s hKs).2.2.2.2.2.2.2.2)) (fun _ h9 => h9) rfl dX3_fate_112 ?_
                subst hR
                exact krX hx hb hr hlk hP hD hS dX3_fate_115 rfl rfl rfl
              · rw [if_pos c69003] at hR hF
                refine lv_aload_n hx hb dX3_fate_95 rfl (lv_at hl 2 rfl) ?_
                refine va_get (D := D) (ci := 3) (v := .ref (aL 1 0)) (C := RX3) (T := TX3) (N := 5) hx hb hts hinX3 hown hK hP 0 rfl rfl 1 (by decide) q4 (fun _ h9 => h9) rfl dX3_fate_96 ?_
                obtain ⟨hs69005, hF⟩ := hF
                refine kcV (ci := 1) (q0 := 0) (As := []) (rest := []) E.1 (cx1_passTick E (aL 1) (Ly 1) hs69005) hX (cwV 0 hts gX3_fate_X1_passTick rfl rfl rfl hdX1_passTick ⟨Nat.le_of_ble_eq_true rfl, Nat.le_of_ble_eq_true rfl⟩) hKs hK hP hD hS hA _ _ (ls_st1 cI cB cS aL Ly) (ls_st1' cI cB cS aL Ly _) rfl rfl rfl rfl hl.1 (Nat.le_of_ble_eq_true rfl) dX3_fate_99 ⟨Nat.zero_le _, Nat.zero_le _⟩ (fun H locs hP hD hS => ?_)
                have hP : va_P D vwCl (lsW cI cB cS aL (va_up Ly 1 (fx1_passTick (Ly 1)))) H := hP
                have hD : va_D A (lsW cI cB cS aL (va_up Ly 1 (fx1_passTick (Ly 1)))) := hD
                obtain ⟨L69004, hR, hF, hP, hD⟩ := kgenF (P := fun X9 => va_P D vwCl (lsW cI cB cS aL X9) H ∧ va_D A (lsW cI cB cS aL X9)) hR hF ⟨hP, hD⟩
                refine lv_iinc (v := y2 + 1) (lv' := [(2, .int (y2 + 1)), (1, .int y1), (0, .ref (aL 7 0))]) hx hb dX3_fate_102 hl (k := 1) rfl rfl (by decide) rfl (fun ls hl => ?_)
                refine lv_goto (tgt := 68) hx hb dX3_fate_105 (by decide) ?_
                exact ih68 y1 (y2 + 1) L69004 _ _ ls hR hF hP hD hS (lv_sub hl [1, 0, 2] rfl)
      exact loop68 kfu x1 0 L6 _ _ ls hR hF hP hD hS (lv_sub hl [2, 0, 1] rfl)
  · rw [if_pos c2] at hR hF
    obtain ⟨sa, hsa⟩ := (EX.2 s hKs).1.2.2.2.2.2.2.2.2.2.2.2.2.2.2.2.2.1
    exact (by subst hR; exact kthrow3 hx hb hfl hown kXfit3 q1 q2 hsa (vx_hat (fun w h => hts w (List.mem_cons_of_mem _ (List.mem_append_right _ h))) (fun _ h => h) (fun w h => va_Nw.use (kXot3 w h) ((EX.2 s hKs).2.2.2.1 w h))) kXgood3 hSt hP hD hS (hl.1.trans hml.symm) dX3_fate_15 dX3_fate_18 dX3_fate_19 dX3_fate_21 dX3_fate_24 htab (Nat.le_of_ble_eq_true rfl) (Nat.le_of_ble_eq_true rfl) hlk kec3 kXe3)

theorem hdX3_append : yX3_append.cls = RX3 ∧ yX3_append.cls ≠ "java/lang/invoke/MethodHandle" ∧ yX3_append.cls ≠ "java/lang/invoke/VarHandle" ∧ (parseMethodDescriptor yX3_append.desc).map (fun d => d.parameters.length) = some 1 := by decide +kernel
def fx3_append (L : (Nat → St)) (x1 : Int32) : Int32 × Int32 × ((Nat → St)) := (if x1 < 0 then (1, 0, L) else (if x1 ≤ 127 then (if ((L 7) 1 2) < 0 then (2, 0, L) else (if ((L 7) 1 2) < (nI 80) then (bnd (va_up L 7 (va_up (L 7) 0 (upd ((L 7) 0) ((L 7) 1 2).toNatClampNeg (vp_nar .byte ((x1).toInt8.toInt32))))) (fun L6 => (bnd (va_up L6 7 (sset (L6 7) 1 2 (((L6 7) 1 2) + 1))) (fun L7 => (0, (L7 7) 1 2, L7))))) else (2, 0, L))) else (1, 0, L)))
def sx3_append (L : (Nat → St)) (x1 : Int32) : Prop := (if x1 < 0 then True else (if x1 ≤ 127 then (if ((L 7) 1 2) < 0 then True else (if ((L 7) 1 2) < (nI 80) then vp_in ((L 7) 1 2) 80 else True)) else True))
set_option maxHeartbeats 4000000 in
set_option maxRecDepth 100000 in
theorem cx3_append {l : Launch} {D : va_G} {cI cB cS cJ : ClassId} {K : State → Prop} (EX : kEX D cI cB cS cJ K) (hfl : l.stackTraces = false) (aL : Nat → Nat → Nat) (L : (Nat → St)) (x1 : Int32) (hF : sx3_append L x1) : kX l D K yX3_append wsX3_append 6 82 [.ref (aL 7 0), .int x1] (lsW cI cB cS aL L) ((fx3_append L x1).1) ((fx3_append L x1).2.1) (lsW cI cB cS aL ((fx3_append L x1).2.2)) := by
  have E := EX.1
  refine kX_of (own := RX3) (cc := cX3_append) (maxL := 2) (tys := kty cI cB cS cJ) (fun U h => (E.2 U h).1) (by decide) rfl rfl (Nat.le_of_ble_eq_true rfl) ?_
  intro p e s m below meth c A ls hx hb hr hml hts hown hlk hKs hK hP hD hA hS hl hSt htab
  have hl : lv_has ls 2 [(0, .ref (aL 7 0)), (1, .int x1)] := hl
  have hX : CallFix p m c cX3_append 2 s _ wsX3_append RX3 := ⟨hx, hb, hml, hown, hts⟩
  have hinX3 : ∀ w ∈ wsX30, w ∈ wsX3_append := fun w h => List.mem_cons_of_mem _ (List.mem_append_left _ (List.mem_append_left _ (List.mem_append_right _ h)))
  have q1 := hts (.classLink RX3 34 "java/lang/IllegalArgumentException") (List.mem_of_getElem? (i := 1) rfl)
  have q2 := hts (.initialized "java/lang/IllegalArgumentException") (List.mem_of_getElem? (i := 2) rfl)
  have q3 := hts (.classLink RX3 54 "java/lang/IllegalStateException") (List.mem_of_getElem? (i := 3) rfl)
  have q4 := hts (.initialized "java/lang/IllegalStateException") (List.mem_of_getElem? (i := 4) rfl)
  have q5 := hts (.fieldLink RX3 30 "LabelStation" "textLength" "I") (List.mem_of_getElem? (i := 5) rfl)
  have q6 := hts (.fieldLink RX3 26 "LabelStation" "text" "[B") (List.mem_of_getElem? (i := 6) rfl)
  generalize hR : fx3_append L x1 = R
  rw [fx3_append] at hR
  rw [sx3_append] at hF
  refine lv_iload_n hx hb dX3_append_0 rfl (lv_at hl 1 rfl) ?_
  refine lv_if_lt (tgt := 10) hx hb dX3_append_1 (by decide) (fun c1 => ?_) (fun c1 => ?_)
  · rw [if_pos c1] at hR hF
    obtain ⟨sa, hsa⟩ := (EX.2 s hKs).1.2.2.2.2.2.2.2.2.2.2.2.2.2.2.2.2.2.2.2.2.1
    exact (by subst hR; exact kthrow hx hb hfl hown kXfit1 q1 q2 hsa (vx_hat (fun w h => hts w (List.mem_cons_of_mem _ (List.mem_append_left _ (List.mem_append_right _ h)))) (fun _ h => h) (fun w h => va_Nw.use (kXot1 w h) ((EX.2 s hKs).2.1 w h))) kXgood1 hSt hP hD hS (hl.1.trans hml.symm) dX3_append_10 dX3_append_13 dX3_append_14 dX3_append_16 dX3_append_19 htab (Nat.le_of_ble_eq_true rfl) (Nat.le_of_ble_eq_true rfl) hlk kec1 kXe1)
  · rw [if_neg c1] at hR hF
    refine lv_iload_n hx hb dX3_append_4 rfl (lv_at hl 1 rfl) ?_
    refine lv_bipush (v := 127) hx hb dX3_append_5 (by decide) ?_
    refine lv_icmp_le (tgt := 20) hx hb dX3_append_7 (by decide) (fun c2 => ?_) (fun c2 => ?_)
    · rw [if_pos c2] at hR hF
      refine lv_aload_n hx hb dX3_append_20 rfl (lv_at hl 0 rfl) ?_
      refine va_get (D := D) (ci := 3) (v := .int ((L 7) 1 2)) (C := RX3) (T := TX3) (N := 5) hx hb hts hinX3 hown hK hP 0 rfl rfl 4 (by decide) q5 (fun _ h9 => h9) rfl dX3_append_21 ?_
      refine lv_if_lt (tgt := 39) hx hb dX3_append_24 (by decide) (fun c3 => ?_) (fun c3 => ?_)
      · rw [if_pos c3] at hR hF
        obtain ⟨sa, hsa⟩ := (EX.2 s hKs).1.2.2.2.2.2.2.2.2.2.2.2.2.2.2.2.2.2.2.2.2.2.1
        exact (by subst hR; exact kthrow hx hb hfl hown kXfit2 q3 q4 hsa (vx_hat (fun w h => hts w (List.mem_cons_of_mem _ (List.mem_append_right _ h))) (fun _ h => h) (fun w h => va_Nw.use (kXot2 w h) ((EX.2 s hKs).2.2.1 w h))) kXgood2 hSt hP hD hS (hl.1.trans hml.symm) dX3_append_39 dX3_append_42 dX3_append_43 dX3_append_45 dX3_append_48 htab (Nat.le_of_ble_eq_true rfl) (Nat.le_of_ble_eq_true rfl) hlk kec2 kXe2)
      · rw [if_neg c3] at hR hF
        refine lv_aload_n hx hb dX3_append_27 rfl (lv_at hl 0 rfl) ?_
        refine va_get (D := D) (ci := 3) (v := .int ((L 7) 1 2)) (C := RX3) (T := TX3) (N := 5) hx hb hts hinX3 hown hK hP 0 rfl rfl 4 (by decide) q5 (fun _ h9 => h9) rfl dX3_append_28 ?_
        refine lv_aload_n hx hb dX3_append_31 rfl (lv_at hl 0 rfl) ?_
        refine va_get (D := D) (ci := 3) (v := .ref (aL 7 3)) (C := RX3) (T := TX3) (N := 5) hx hb hts hinX3 hown hK hP 0 rfl rfl 3 (by decide) q6 (fun _ h9 => h9) rfl dX3_append_32 ?_
        refine va_alen (v := nI 80) hx hb hK hP 101 1 rfl rfl rfl dX3_append_35 ?_
        refine lv_icmp_lt (tgt := 49) hx hb dX3_append_36 (by decide) (fun c4 => ?_) (fun c4 => ?_)
        · rw [if_pos c4] at hR hF
          refine lv_aload_n hx hb dX3_append_49 rfl (lv_at hl 0 rfl) ?_
          refine va_get (D := D) (ci := 3) (v := .ref (aL 7 3)) (C := RX3) (T := TX3) (N := 5) hx hb hts hinX3 hown hK hP 0 rfl rfl 3 (by decide) q6 (fun _ h9 => h9) rfl dX3_append_50 ?_
          refine lv_aload_n hx hb dX3_append_53 rfl (lv_at hl 0 rfl) ?_
          refine va_get (D := D) (ci := 3) (v := .int ((L 7) 1 2)) (C := RX3) (T := TX3) (N := 5) hx hb hts hinX3 hown hK hP 0 rfl rfl 4 (by decide) q5 (fun _ h9 => h9) rfl dX3_append_54 ?_
          refine lv_iload_n hx hb dX3_append_57 rfl (lv_at hl 1 rfl) ?_
          refine lv_i2b hx hb dX3_append_58 rfl ?_
          have hi5 := hF
          refine va_bast hx hb hK hP hD hS 101 1 rfl rfl hi5 dX3_append_59 (fun H locs hP hD hS => ?_)
          have hP : va_P D vwCl (lsW cI cB cS aL (va_up L 7 (va_up (L 7) 0 (upd ((L 7) 0) ((L 7) 1 2).toNatClampNeg (vp_nar .byte ((x1).toInt8.toInt32)))))) H := hP
          have hD : va_D A (lsW cI cB cS aL (va_up L 7 (va_up (L 7) 0 (upd ((L 7) 0) ((L 7) 1 2).toNatClampNeg (vp_nar .byte ((x1).toInt8.toInt32)))))) := hD
          obtain ⟨L6, hR, hP, hD⟩ := kgen (P := fun X9 => va_P D vwCl (lsW cI cB cS aL X9) H ∧ va_D A (lsW cI cB cS aL X9)) hR ⟨hP, hD⟩
          refine lv_aload_n hx hb dX3_append_60 rfl (lv_at hl 0 rfl) ?_
          refine lv_dup hx hb dX3_append_61 rfl ?_
          refine va_get (D := D) (ci := 3) (v := .int ((L6 7) 1 2)) (C := RX3) (T := TX3) (N := 5) hx hb hts hinX3 hown hK hP 0 rfl rfl 4 (by decide) q5 (fun _ h9 => h9) rfl dX3_append_62 ?_
          refine lv_iconst (v := 1) hx hb dX3_append_65 (by decide) ?_
          refine lv_iadd hx hb dX3_append_66 ?_
          refine va_put (D := D) (ci := 3) (v := .int (((L6 7) 1 2) + 1)) (ty := .int) (C := RX3) (T := TX3) (N := 5) hx hb hts hinX3 tyX3 tyX3_ok nmX3 hown hK hP hD hS 0 rfl rfl 4 (by decide) q5 (fun _ h9 => h9) rfl (by decide +kernel) rfl rfl (Nat.le_of_ble_eq_true rfl) dX3_append_67 (fun H locs hP hD hS => ?_)
          have hP : va_P D vwCl (lsW cI cB cS aL (va_up L6 7 (sset (L6 7) 1 2 (((L6 7) 1 2) + 1)))) H := hP
          have hD : va_D A (lsW cI cB cS aL (va_up L6 7 (sset (L6 7) 1 2 (((L6 7) 1 2) + 1)))) := hD
          obtain ⟨L7, hR, hP, hD⟩ := kgen (P := fun X9 => va_P D vwCl (lsW cI cB cS aL X9) H ∧ va_D A (lsW cI cB cS aL X9)) hR ⟨hP, hD⟩
          refine lv_aload_n hx hb dX3_append_70 rfl (lv_at hl 0 rfl) ?_
          refine va_get (D := D) (ci := 3) (v := .int ((L7 7) 1 2)) (C := RX3) (T := TX3) (N := 5) hx hb hts hinX3 hown hK hP 0 rfl rfl 4 (by decide) q5 (fun _ h9 => h9) rfl dX3_append_71 ?_
          subst hR
          exact krX hx hb hr hlk hP hD hS dX3_append_74 rfl rfl rfl
        · rw [if_neg c4] at hR hF
          obtain ⟨sa, hsa⟩ := (EX.2 s hKs).1.2.2.2.2.2.2.2.2.2.2.2.2.2.2.2.2.2.2.2.2.2.1
          exact (by subst hR; exact kthrow hx hb hfl hown kXfit2 q3 q4 hsa (vx_hat (fun w h => hts w (List.mem_cons_of_mem _ (List.mem_append_right _ h))) (fun _ h => h) (fun w h => va_Nw.use (kXot2 w h) ((EX.2 s hKs).2.2.1 w h))) kXgood2 hSt hP hD hS (hl.1.trans hml.symm) dX3_append_39 dX3_append_42 dX3_append_43 dX3_append_45 dX3_append_48 htab (Nat.le_of_ble_eq_true rfl) (Nat.le_of_ble_eq_true rfl) hlk kec2 kXe2)
    · rw [if_neg c2] at hR hF
      obtain ⟨sa, hsa⟩ := (EX.2 s hKs).1.2.2.2.2.2.2.2.2.2.2.2.2.2.2.2.2.2.2.2.2.1
      exact (by subst hR; exact kthrow hx hb hfl hown kXfit1 q1 q2 hsa (vx_hat (fun w h => hts w (List.mem_cons_of_mem _ (List.mem_append_left _ (List.mem_append_right _ h)))) (fun _ h => h) (fun w h => va_Nw.use (kXot1 w h) ((EX.2 s hKs).2.1 w h))) kXgood1 hSt hP hD hS (hl.1.trans hml.symm) dX3_append_10 dX3_append_13 dX3_append_14 dX3_append_16 dX3_append_19 htab (Nat.le_of_ble_eq_true rfl) (Nat.le_of_ble_eq_true rfl) hlk kec1 kXe1)

theorem hdX3_clearText : yX3_clearText.cls = RX3 ∧ yX3_clearText.cls ≠ "java/lang/invoke/MethodHandle" ∧ yX3_clearText.cls ≠ "java/lang/invoke/VarHandle" ∧ (parseMethodDescriptor yX3_clearText.desc).map (fun d => d.parameters.length) = some 0 := by decide +kernel
def fx3_clearText (L : (Nat → St)) : Int32 × ((Nat → St)) := (bnd (va_up L 7 (sset (L 7) 1 2 0)) (fun L1 => ((L 7) 1 2, L1)))
set_option maxHeartbeats 4000000 in
set_option maxRecDepth 100000 in
theorem cx3_clearText {l : Launch} {D : va_G} {cI cB cS cJ : ClassId} {K : State → Prop} (EX : kEX D cI cB cS cJ K) (aL : Nat → Nat → Nat) (L : (Nat → St)) : kI l D K yX3_clearText wsX3_clearText 0 0 [.ref (aL 7 0)] (lsW cI cB cS aL L) (fx3_clearText L).1 (lsW cI cB cS aL ((fx3_clearText L).2)) := by
  have E := EX.1
  refine kI_of (own := RX3) (cc := cX3_clearText) (maxL := 2) (tys := kty cI cB cS cJ) (fun U h => (E.2 U h).1) (by decide) rfl rfl (Nat.le_of_ble_eq_true rfl) ?_
  intro p e s m below meth c A ls hx hb hr hml hts hown hlk hKs hK hP hD hA hS hl
  have hl : lv_has ls 2 [(0, .ref (aL 7 0))] := hl
  have hX : CallFix p m c cX3_clearText 2 s _ wsX3_clearText RX3 := ⟨hx, hb, hml, hown, hts⟩
  have hinX3 : ∀ w ∈ wsX30, w ∈ wsX3_clearText := fun w h => List.mem_cons_of_mem _ (List.mem_append_right _ h)
  have q1 := hts (.fieldLink RX3 30 "LabelStation" "textLength" "I") (List.mem_of_getElem? (i := 1) rfl)
  generalize hR : fx3_clearText L = R
  rw [fx3_clearText] at hR
  refine lv_aload_n hx hb dX3_clearText_0 rfl (lv_at hl 0 rfl) ?_
  refine va_get (D := D) (ci := 3) (v := .int ((L 7) 1 2)) (C := RX3) (T := TX3) (N := 5) hx hb hts hinX3 hown hK hP 0 rfl rfl 4 (by decide) q1 (fun _ h9 => h9) rfl dX3_clearText_1 ?_
  refine lv_istore_n (lv' := [(1, .int ((L 7) 1 2)), (0, .ref (aL 7 0))]) hx hb dX3_clearText_4 rfl hl (by decide) rfl (fun ls hl => ?_)
  refine lv_aload_n hx hb dX3_clearText_5 rfl (lv_at hl 1 rfl) ?_
  refine lv_iconst (v := 0) hx hb dX3_clearText_6 (by decide) ?_
  refine va_put (D := D) (ci := 3) (v := .int 0) (ty := .int) (C := RX3) (T := TX3) (N := 5) hx hb hts hinX3 tyX3 tyX3_ok nmX3 hown hK hP hD hS 0 rfl rfl 4 (by decide) q1 (fun _ h9 => h9) rfl (by decide +kernel) rfl rfl (Nat.le_of_ble_eq_true rfl) dX3_clearText_7 (fun H locs hP hD hS => ?_)
  have hP : va_P D vwCl (lsW cI cB cS aL (va_up L 7 (sset (L 7) 1 2 0))) H := hP
  have hD : va_D A (lsW cI cB cS aL (va_up L 7 (sset (L 7) 1 2 0))) := hD
  obtain ⟨L1, hR, hP, hD⟩ := kgen (P := fun X9 => va_P D vwCl (lsW cI cB cS aL X9) H ∧ va_D A (lsW cI cB cS aL X9)) hR ⟨hP, hD⟩
  refine lv_iload_n hx hb dX3_clearText_10 rfl (lv_at hl 0 rfl) ?_
  subst hR
  exact krI hx hb hr hlk hP hD hS dX3_clearText_11 rfl rfl

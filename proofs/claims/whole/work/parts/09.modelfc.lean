/-! the model, whole: printed by my own program (gen.py) out of the listing -/
theorem hdX4_jam : yX4_jam.cls = RX4 ∧ yX4_jam.cls ≠ "java/lang/invoke/MethodHandle" ∧ yX4_jam.cls ≠ "java/lang/invoke/VarHandle" ∧ (parseMethodDescriptor yX4_jam.desc).map (fun d => d.parameters.length) = some 1 := by decide +kernel
def fx4_jam (M : Md) (x1 : Int32) : Int32 × (Md) := (bnd (fx4_saves (sset M.1 4 1 0, M.2)) (fun M1 => (if ((M1.1 0) 13) = 1 then (if x1 = 0 then (bnd (upd (M1.1 0) 13 0) (fun g4 => (1, (va_up M1.1 0 g4, M1.2)))) else (bnd (upd (M1.1 0) 13 1) (fun g5 => (1, (va_up M1.1 0 g5, M1.2))))) else (if x1 = 0 then (bnd (upd (M1.1 0) 13 0) (fun g7 => (0, (va_up M1.1 0 g7, M1.2)))) else (bnd (upd (M1.1 0) 13 1) (fun g8 => (0, (va_up M1.1 0 g8, M1.2))))))))
def sx4_jam (M : Md) (x1 : Int32) : Prop := sx4_saves (sset M.1 4 1 0, M.2)
set_option maxHeartbeats 4000000 in
set_option maxRecDepth 100000 in
theorem cx4_jam {l : Launch} {D : va_G} {cI cB cS cJ : ClassId} {K : State → Prop} (E : kE D cI cB cS cJ K) (am : Nat → Nat) (M : Md) (x1 : Int32) (hF : sx4_jam M x1) : kI l D K yX4_jam wsX4_jam 1 21 [.ref (am 0), .int x1] (mdW cI am M) (fx4_jam M x1).1 (mdW cI am ((fx4_jam M x1).2)) := by
  refine kI_of (own := RX4) (cc := cX4_jam) (maxL := 3) (tys := kty cI cB cS cJ) (fun U h => (E.2 U h).1) (by decide) rfl rfl (Nat.le_of_ble_eq_true rfl) ?_
  intro p e s m below meth c A ls hx hb hr hml hts hown hlk hKs hK hP hD hA hS hl
  have hl : lv_has ls 3 [(0, .ref (am 0)), (1, .int x1)] := hl
  have hX : CallFix p m c cX4_jam 3 s _ wsX4_jam RX4 := ⟨hx, hb, hml, hown, hts⟩
  have hinX4 : ∀ w ∈ wsX40, w ∈ wsX4_jam := fun w h => List.mem_cons_of_mem _ (List.mem_append_right _ h)
  have q1 := hts (.fieldLink RX4 22 "LabelStationModel" "refusal" "I") (List.mem_of_getElem? (i := 1) rfl)
  have q2 := hts (.fieldLink RX4 7 "LabelStationModel" "now" "[I") (List.mem_of_getElem? (i := 2) rfl)
  generalize hR : fx4_jam M x1 = R
  rw [fx4_jam] at hR
  rw [sx4_jam] at hF
  refine lv_aload_n hx hb dX4_jam_0 rfl (lv_at hl 0 rfl) ?_
  refine lv_iconst (v := 0) hx hb dX4_jam_1 (by decide) ?_
  refine va_put (D := D) (ci := 4) (v := .int 0) (ty := .int) (C := RX4) (T := TX4) (N := 8) hx hb hts hinX4 tyX4 tyX4_ok nmX4 hown hK hP hD hS 0 rfl rfl 4 (by decide) q1 (fun _ h9 => h9) rfl (by decide +kernel) rfl rfl (Nat.le_of_ble_eq_true rfl) dX4_jam_2 (fun H locs hP hD hS => ?_)
  have hP : va_P D vwCl (mdW cI am (sset M.1 4 1 0, M.2)) H := hP
  have hD : va_D A (mdW cI am (sset M.1 4 1 0, M.2)) := hD
  refine lv_aload_n hx hb dX4_jam_5 rfl (lv_at hl 0 rfl) ?_
  have hs9 := hF
  refine kcV (ci := 4) (q0 := 0) (As := []) (rest := []) E.1 (cx4_saves E am (sset M.1 4 1 0, M.2) hs9) hX (cwV 0 hts gX4_jam_X4_saves rfl rfl rfl hdX4_saves ⟨Nat.le_of_ble_eq_true rfl, Nat.le_of_ble_eq_true rfl⟩) hKs hK hP hD hS hA _ _ (kw_self _) (kw_self _).symm rfl rfl rfl rfl hl.1 (Nat.le_of_ble_eq_true rfl) dX4_jam_6 ⟨Nat.zero_le _, Nat.zero_le _⟩ (fun H locs hP hD hS => ?_)
  have hP : va_P D vwCl (mdW cI am (fx4_saves (sset M.1 4 1 0, M.2))) H := hP
  have hD : va_D A (mdW cI am (fx4_saves (sset M.1 4 1 0, M.2))) := hD
  generalize eM1 : fx4_saves (sset M.1 4 1 0, M.2) = M1 at hR hP hD
  replace hR := bnd_e hR
  refine lv_aload_n hx hb dX4_jam_9 rfl (lv_at hl 0 rfl) ?_
  refine va_get (D := D) (ci := 4) (v := .ref (am 1)) (C := RX4) (T := TX4) (N := 8) hx hb hts hinX4 hown hK hP 0 rfl rfl 0 (by decide) q2 (fun _ h9 => h9) rfl dX4_jam_10 ?_
  refine lv_bipush (v := 13) hx hb dX4_jam_13 (by decide) ?_
  refine va_iald hx hb hK hP 1 0 rfl rfl (kin_lit (j := 13) (n := 1203) (by decide) (by decide)) dX4_jam_15 ?_
  refine kw_top (v := .int ((M1.1 0) 13)) rfl ?_
  refine lv_iconst (v := 1) hx hb dX4_jam_16 (by decide) ?_
  refine lv_icmp_ne (tgt := 24) hx hb dX4_jam_17 (by decide) (fun c2 => ?_) (fun c2 => ?_)
  · rw [if_neg c2] at hR
    refine lv_iconst (v := 0) hx hb dX4_jam_24 (by decide) ?_
    refine lv_istore_n (lv' := [(2, .int 0), (0, .ref (am 0)), (1, .int x1)]) hx hb dX4_jam_25 rfl hl (by decide) rfl (fun ls hl => ?_)
    refine lv_aload_n hx hb dX4_jam_26 rfl (lv_at hl 1 rfl) ?_
    refine va_get (D := D) (ci := 4) (v := .ref (am 1)) (C := RX4) (T := TX4) (N := 8) hx hb hts hinX4 hown hK hP 0 rfl rfl 0 (by decide) q2 (fun _ h9 => h9) rfl dX4_jam_27 ?_
    refine lv_bipush (v := 13) hx hb dX4_jam_30 (by decide) ?_
    refine lv_iload_n hx hb dX4_jam_32 rfl (lv_at hl 2 rfl) ?_
    refine lv_if_eq (tgt := 40) hx hb dX4_jam_33 (by decide) (fun c6 => ?_) (fun c6 => ?_)
    · rw [if_pos c6] at hR
      refine lv_iconst (v := 0) hx hb dX4_jam_40 (by decide) ?_
      refine va_iast hx hb hK hP hD hS 1 0 rfl rfl (kin_lit (j := 13) (n := 1203) (by decide) (by decide)) dX4_jam_41 (fun H locs hP hD hS => ?_)
      have hP : va_P D vwCl (mdW cI am (va_up M1.1 0 (upd (M1.1 0) 13 0), M1.2)) H := hP
      have hD : va_D A (mdW cI am (va_up M1.1 0 (upd (M1.1 0) 13 0), M1.2)) := hD
      generalize eg7 : upd (M1.1 0) 13 0 = g7 at hR hP hD
      replace hR := bnd_e hR
      refine lv_iload_n hx hb dX4_jam_42 rfl (lv_at hl 0 rfl) ?_
      subst hR
      exact krZ hx hb hr hlk hP hD hS dX4_jam_43 (by decide) rfl rfl
    · rw [if_neg c6] at hR
      refine lv_iconst (v := 1) hx hb dX4_jam_36 (by decide) ?_
      refine lv_goto (tgt := 41) hx hb dX4_jam_37 (by decide) ?_
      refine va_iast hx hb hK hP hD hS 1 0 rfl rfl (kin_lit (j := 13) (n := 1203) (by decide) (by decide)) dX4_jam_41 (fun H locs hP hD hS => ?_)
      have hP : va_P D vwCl (mdW cI am (va_up M1.1 0 (upd (M1.1 0) 13 1), M1.2)) H := hP
      have hD : va_D A (mdW cI am (va_up M1.1 0 (upd (M1.1 0) 13 1), M1.2)) := hD
      generalize eg8 : upd (M1.1 0) 13 1 = g8 at hR hP hD
      replace hR := bnd_e hR
      refine lv_iload_n hx hb dX4_jam_42 rfl (lv_at hl 0 rfl) ?_
      subst hR
      exact krZ hx hb hr hlk hP hD hS dX4_jam_43 (by decide) rfl rfl
  · rw [if_pos c2] at hR
    refine lv_iconst (v := 1) hx hb dX4_jam_20 (by decide) ?_
    refine lv_goto (tgt := 25) hx hb dX4_jam_21 (by decide) ?_
    refine lv_istore_n (lv' := [(2, .int 1), (0, .ref (am 0)), (1, .int x1)]) hx hb dX4_jam_25 rfl hl (by decide) rfl (fun ls hl => ?_)
    refine lv_aload_n hx hb dX4_jam_26 rfl (lv_at hl 1 rfl) ?_
    refine va_get (D := D) (ci := 4) (v := .ref (am 1)) (C := RX4) (T := TX4) (N := 8) hx hb hts hinX4 hown hK hP 0 rfl rfl 0 (by decide) q2 (fun _ h9 => h9) rfl dX4_jam_27 ?_
    refine lv_bipush (v := 13) hx hb dX4_jam_30 (by decide) ?_
    refine lv_iload_n hx hb dX4_jam_32 rfl (lv_at hl 2 rfl) ?_
    refine lv_if_eq (tgt := 40) hx hb dX4_jam_33 (by decide) (fun c3 => ?_) (fun c3 => ?_)
    · rw [if_pos c3] at hR
      refine lv_iconst (v := 0) hx hb dX4_jam_40 (by decide) ?_
      refine va_iast hx hb hK hP hD hS 1 0 rfl rfl (kin_lit (j := 13) (n := 1203) (by decide) (by decide)) dX4_jam_41 (fun H locs hP hD hS => ?_)
      have hP : va_P D vwCl (mdW cI am (va_up M1.1 0 (upd (M1.1 0) 13 0), M1.2)) H := hP
      have hD : va_D A (mdW cI am (va_up M1.1 0 (upd (M1.1 0) 13 0), M1.2)) := hD
      generalize eg4 : upd (M1.1 0) 13 0 = g4 at hR hP hD
      replace hR := bnd_e hR
      refine lv_iload_n hx hb dX4_jam_42 rfl (lv_at hl 0 rfl) ?_
      subst hR
      exact krZ hx hb hr hlk hP hD hS dX4_jam_43 (by decide) rfl rfl
    · rw [if_neg c3] at hR
      refine lv_iconst (v := 1) hx hb dX4_jam_36 (by decide) ?_
      refine lv_goto (tgt := 41) hx hb dX4_jam_37 (by decide) ?_
      refine va_iast hx hb hK hP hD hS 1 0 rfl rfl (kin_lit (j := 13) (n := 1203) (by decide) (by decide)) dX4_jam_41 (fun H locs hP hD hS => ?_)
      have hP : va_P D vwCl (mdW cI am (va_up M1.1 0 (upd (M1.1 0) 13 1), M1.2)) H := hP
      have hD : va_D A (mdW cI am (va_up M1.1 0 (upd (M1.1 0) 13 1), M1.2)) := hD
      generalize eg5 : upd (M1.1 0) 13 1 = g5 at hR hP hD
      replace hR := bnd_e hR
      refine lv_iload_n hx hb dX4_jam_42 rfl (lv_at hl 0 rfl) ?_
      subst hR
      exact krZ hx hb hr hlk hP hD hS dX4_jam_43 (by decide) rfl rfl

theorem hdX4_start : yX4_start.cls = RX4 ∧ yX4_start.cls ≠ "java/lang/invoke/MethodHandle" ∧ yX4_start.cls ≠ "java/lang/invoke/VarHandle" ∧ (parseMethodDescriptor yX4_start.desc).map (fun d => d.parameters.length) = some 0 := by decide +kernel
def fx4_start (M : Md) : Int32 × (Md) := (if ((M.1 0) 15) = 1 then (bnd (fx4_refused M 1) (fun u2 => (if u2.1 = 0 then (bnd (fx4_saves u2.2) (fun M4 => (bnd (upd (M4.1 0) 15 1) (fun g5 => (g5 36, (va_up M4.1 0 g5, M4.2)))))) else (0, u2.2)))) else (if ((M.1 0) 16) = 0 then (bnd (fx4_refused M 0) (fun u8 => (if u8.1 = 0 then (bnd (fx4_saves u8.2) (fun M10 => (bnd (upd (M10.1 0) 15 1) (fun g11 => (g11 36, (va_up M10.1 0 g11, M10.2)))))) else (0, u8.2)))) else (bnd (fx4_refused M 1) (fun u13 => (if u13.1 = 0 then (bnd (fx4_saves u13.2) (fun M15 => (bnd (upd (M15.1 0) 15 1) (fun g16 => (g16 36, (va_up M15.1 0 g16, M15.2)))))) else (0, u13.2))))))
def sx4_start (M : Md) : Prop := (if ((M.1 0) 15) = 1 then (bnd (fx4_refused M 1) (fun u2 => (if u2.1 = 0 then sx4_saves u2.2 else True))) else (if ((M.1 0) 16) = 0 then (bnd (fx4_refused M 0) (fun u8 => (if u8.1 = 0 then sx4_saves u8.2 else True))) else (bnd (fx4_refused M 1) (fun u13 => (if u13.1 = 0 then sx4_saves u13.2 else True)))))
set_option maxHeartbeats 4000000 in
set_option maxRecDepth 100000 in
theorem cx4_start {l : Launch} {D : va_G} {cI cB cS cJ : ClassId} {K : State → Prop} (E : kE D cI cB cS cJ K) (am : Nat → Nat) (M : Md) (hF : sx4_start M) : kI l D K yX4_start wsX4_start 1 21 [.ref (am 0)] (mdW cI am M) (fx4_start M).1 (mdW cI am ((fx4_start M).2)) := by
  refine kI_of (own := RX4) (cc := cX4_start) (maxL := 1) (tys := kty cI cB cS cJ) (fun U h => (E.2 U h).1) (by decide) rfl rfl (Nat.le_of_ble_eq_true rfl) ?_
  intro p e s m below meth c A ls hx hb hr hml hts hown hlk hKs hK hP hD hA hS hl
  have hl : lv_has ls 1 [(0, .ref (am 0))] := hl
  have hX : CallFix p m c cX4_start 1 s _ wsX4_start RX4 := ⟨hx, hb, hml, hown, hts⟩
  have hinX4 : ∀ w ∈ wsX40, w ∈ wsX4_start := fun w h => List.mem_cons_of_mem _ (List.mem_append_right _ h)
  have q1 := hts (.fieldLink RX4 7 "LabelStationModel" "now" "[I") (List.mem_of_getElem? (i := 1) rfl)
  generalize hR : fx4_start M = R
  rw [fx4_start] at hR
  rw [sx4_start] at hF
  refine lv_aload_n hx hb dX4_start_0 rfl (lv_at hl 0 rfl) ?_
  refine lv_aload_n hx hb dX4_start_1 rfl (lv_at hl 0 rfl) ?_
  refine va_get (D := D) (ci := 4) (v := .ref (am 1)) (C := RX4) (T := TX4) (N := 8) hx hb hts hinX4 hown hK hP 0 rfl rfl 0 (by decide) q1 (fun _ h9 => h9) rfl dX4_start_2 ?_
  refine lv_bipush (v := 15) hx hb dX4_start_5 (by decide) ?_
  refine va_iald hx hb hK hP 1 0 rfl rfl (kin_lit (j := 15) (n := 1203) (by decide) (by decide)) dX4_start_7 ?_
  refine kw_top (v := .int ((M.1 0) 15)) rfl ?_
  refine lv_iconst (v := 1) hx hb dX4_start_8 (by decide) ?_
  refine lv_icmp_eq (tgt := 22) hx hb dX4_start_9 (by decide) (fun c1 => ?_) (fun c1 => ?_)
  · rw [if_pos c1] at hR hF
    refine lv_iconst (v := 1) hx hb dX4_start_22 (by decide) ?_
    refine lv_goto (tgt := 27) hx hb dX4_start_23 (by decide) ?_
    refine kcI (ci := 4) (q0 := 0) (As := [.int 1]) (rest := []) E.1 (cx4_refused E am M 1) hX (cwV 1 hts gX4_start_X4_refused rfl rfl rfl hdX4_refused ⟨Nat.le_of_ble_eq_true rfl, Nat.le_of_ble_eq_true rfl⟩) hKs hK hP hD hS hA _ _ (kw_self _) (kw_self _).symm rfl rfl rfl rfl hl.1 (Nat.le_of_ble_eq_true rfl) dX4_start_27 ⟨Nat.zero_le _, Nat.zero_le _⟩ (fun H locs hP hD hS => ?_)
    have hP : va_P D vwCl (mdW cI am ((fx4_refused M 1).2)) H := hP
    have hD : va_D A (mdW cI am ((fx4_refused M 1).2)) := hD
    generalize eu2 : fx4_refused M 1 = u2 at hR hF hP hD ⊢
    replace hR := bnd_e hR
    replace hF := bnd_p hF
    refine lv_if_eq (tgt := 35) hx hb dX4_start_30 (by decide) (fun c3 => ?_) (fun c3 => ?_)
    · rw [if_pos c3] at hR hF
      refine lv_aload_n hx hb dX4_start_35 rfl (lv_at hl 0 rfl) ?_
      have hs6 := hF
      refine kcV (ci := 4) (q0 := 0) (As := []) (rest := []) E.1 (cx4_saves E am u2.2 hs6) hX (cwV 0 hts gX4_start_X4_saves rfl rfl rfl hdX4_saves ⟨Nat.le_of_ble_eq_true rfl, Nat.le_of_ble_eq_true rfl⟩) hKs hK hP hD hS hA _ _ (kw_self _) (kw_self _).symm rfl rfl rfl rfl hl.1 (Nat.le_of_ble_eq_true rfl) dX4_start_36 ⟨Nat.zero_le _, Nat.zero_le _⟩ (fun H locs hP hD hS => ?_)
      have hP : va_P D vwCl (mdW cI am (fx4_saves u2.2)) H := hP
      have hD : va_D A (mdW cI am (fx4_saves u2.2)) := hD
      generalize eM4 : fx4_saves u2.2 = M4 at hR hP hD
      replace hR := bnd_e hR
      refine lv_aload_n hx hb dX4_start_39 rfl (lv_at hl 0 rfl) ?_
      refine va_get (D := D) (ci := 4) (v := .ref (am 1)) (C := RX4) (T := TX4) (N := 8) hx hb hts hinX4 hown hK hP 0 rfl rfl 0 (by decide) q1 (fun _ h9 => h9) rfl dX4_start_40 ?_
      refine lv_bipush (v := 15) hx hb dX4_start_43 (by decide) ?_
      refine lv_iconst (v := 1) hx hb dX4_start_45 (by decide) ?_
      refine va_iast hx hb hK hP hD hS 1 0 rfl rfl (kin_lit (j := 15) (n := 1203) (by decide) (by decide)) dX4_start_46 (fun H locs hP hD hS => ?_)
      have hP : va_P D vwCl (mdW cI am (va_up M4.1 0 (upd (M4.1 0) 15 1), M4.2)) H := hP
      have hD : va_D A (mdW cI am (va_up M4.1 0 (upd (M4.1 0) 15 1), M4.2)) := hD
      generalize eg5 : upd (M4.1 0) 15 1 = g5 at hR hP hD
      replace hR := bnd_e hR
      refine lv_aload_n hx hb dX4_start_47 rfl (lv_at hl 0 rfl) ?_
      refine va_get (D := D) (ci := 4) (v := .ref (am 1)) (C := RX4) (T := TX4) (N := 8) hx hb hts hinX4 hown hK hP 0 rfl rfl 0 (by decide) q1 (fun _ h9 => h9) rfl dX4_start_48 ?_
      refine lv_bipush (v := 36) hx hb dX4_start_51 (by decide) ?_
      refine va_iald hx hb hK hP 1 0 rfl rfl (kin_lit (j := 36) (n := 1203) (by decide) (by decide)) dX4_start_53 ?_
      refine kw_top (v := .int (g5 36)) rfl ?_
      subst hR
      exact krI hx hb hr hlk hP hD hS dX4_start_54 rfl rfl
    · rw [if_neg c3] at hR hF
      refine lv_iconst (v := 0) hx hb dX4_start_33 (by decide) ?_
      subst hR
      exact krI hx hb hr hlk hP hD hS dX4_start_34 rfl rfl
  · rw [if_neg c1] at hR hF
    refine lv_aload_n hx hb dX4_start_12 rfl (lv_at hl 0 rfl) ?_
    refine va_get (D := D) (ci := 4) (v := .ref (am 1)) (C := RX4) (T := TX4) (N := 8) hx hb hts hinX4 hown hK hP 0 rfl rfl 0 (by decide) q1 (fun _ h9 => h9) rfl dX4_start_13 ?_
    refine lv_bipush (v := 16) hx hb dX4_start_16 (by decide) ?_
    refine va_iald hx hb hK hP 1 0 rfl rfl (kin_lit (j := 16) (n := 1203) (by decide) (by decide)) dX4_start_18 ?_
    refine kw_top (v := .int ((M.1 0) 16)) rfl ?_
    refine lv_if_eq (tgt := 26) hx hb dX4_start_19 (by decide) (fun c7 => ?_) (fun c7 => ?_)
    · rw [if_pos c7] at hR hF
      refine lv_iconst (v := 0) hx hb dX4_start_26 (by decide) ?_
      refine kcI (ci := 4) (q0 := 0) (As := [.int 0]) (rest := []) E.1 (cx4_refused E am M 0) hX (cwV 1 hts gX4_start_X4_refused rfl rfl rfl hdX4_refused ⟨Nat.le_of_ble_eq_true rfl, Nat.le_of_ble_eq_true rfl⟩) hKs hK hP hD hS hA _ _ (kw_self _) (kw_self _).symm rfl rfl rfl rfl hl.1 (Nat.le_of_ble_eq_true rfl) dX4_start_27 ⟨Nat.zero_le _, Nat.zero_le _⟩ (fun H locs hP hD hS => ?_)
      have hP : va_P D vwCl (mdW cI am ((fx4_refused M 0).2)) H := hP
      have hD : va_D A (mdW cI am ((fx4_refused M 0).2)) := hD
      generalize eu8 : fx4_refused M 0 = u8 at hR hF hP hD ⊢
      replace hR := bnd_e hR
      replace hF := bnd_p hF
      refine lv_if_eq (tgt := 35) hx hb dX4_start_30 (by decide) (fun c9 => ?_) (fun c9 => ?_)
      · rw [if_pos c9] at hR hF
        refine lv_aload_n hx hb dX4_start_35 rfl (lv_at hl 0 rfl) ?_
        have hs12 := hF
        refine kcV (ci := 4) (q0 := 0) (As := []) (rest := []) E.1 (cx4_saves E am u8.2 hs12) hX (cwV 0 hts gX4_start_X4_saves rfl rfl rfl hdX4_saves ⟨Nat.le_of_ble_eq_true rfl, Nat.le_of_ble_eq_true rfl⟩) hKs hK hP hD hS hA _ _ (kw_self _) (kw_self _).symm rfl rfl rfl rfl hl.1 (Nat.le_of_ble_eq_true rfl) dX4_start_36 ⟨Nat.zero_le _, Nat.zero_le _⟩ (fun H locs hP hD hS => ?_)
        have hP : va_P D vwCl (mdW cI am (fx4_saves u8.2)) H := hP
        have hD : va_D A (mdW cI am (fx4_saves u8.2)) := hD
        generalize eM10 : fx4_saves u8.2 = M10 at hR hP hD
        replace hR := bnd_e hR
        refine lv_aload_n hx hb dX4_start_39 rfl (lv_at hl 0 rfl) ?_
        refine va_get (D := D) (ci := 4) (v := .ref (am 1)) (C := RX4) (T := TX4) (N := 8) hx hb hts hinX4 hown hK hP 0 rfl rfl 0 (by decide) q1 (fun _ h9 => h9) rfl dX4_start_40 ?_
        refine lv_bipush (v := 15) hx hb dX4_start_43 (by decide) ?_
        refine lv_iconst (v := 1) hx hb dX4_start_45 (by decide) ?_
        refine va_iast hx hb hK hP hD hS 1 0 rfl rfl (kin_lit (j := 15) (n := 1203) (by decide) (by decide)) dX4_start_46 (fun H locs hP hD hS => ?_)
        have hP : va_P D vwCl (mdW cI am (va_up M10.1 0 (upd (M10.1 0) 15 1), M10.2)) H := hP
        have hD : va_D A (mdW cI am (va_up M10.1 0 (upd (M10.1 0) 15 1), M10.2)) := hD
        generalize eg11 : upd (M10.1 0) 15 1 = g11 at hR hP hD
        replace hR := bnd_e hR
        refine lv_aload_n hx hb dX4_start_47 rfl (lv_at hl 0 rfl) ?_
        refine va_get (D := D) (ci := 4) (v := .ref (am 1)) (C := RX4) (T := TX4) (N := 8) hx hb hts hinX4 hown hK hP 0 rfl rfl 0 (by decide) q1 (fun _ h9 => h9) rfl dX4_start_48 ?_
        refine lv_bipush (v := 36) hx hb dX4_start_51 (by decide) ?_
        refine va_iald hx hb hK hP 1 0 rfl rfl (kin_lit (j := 36) (n := 1203) (by decide) (by decide)) dX4_start_53 ?_
        refine kw_top (v := .int (g11 36)) rfl ?_
        subst hR
        exact krI hx hb hr hlk hP hD hS dX4_start_54 rfl rfl
      · rw [if_neg c9] at hR hF
        refine lv_iconst (v := 0) hx hb dX4_start_33 (by decide) ?_
        subst hR
        exact krI hx hb hr hlk hP hD hS dX4_start_34 rfl rfl
    · rw [if_neg c7] at hR hF
      refine lv_iconst (v := 1) hx hb dX4_start_22 (by decide) ?_
      refine lv_goto (tgt := 27) hx hb dX4_start_23 (by decide) ?_
      refine kcI (ci := 4) (q0 := 0) (As := [.int 1]) (rest := []) E.1 (cx4_refused E am M 1) hX (cwV 1 hts gX4_start_X4_refused rfl rfl rfl hdX4_refused ⟨Nat.le_of_ble_eq_true rfl, Nat.le_of_ble_eq_true rfl⟩) hKs hK hP hD hS hA _ _ (kw_self _) (kw_self _).symm rfl rfl rfl rfl hl.1 (Nat.le_of_ble_eq_true rfl) dX4_start_27 ⟨Nat.zero_le _, Nat.zero_le _⟩ (fun H locs hP hD hS => ?_)
      have hP : va_P D vwCl (mdW cI am ((fx4_refused M 1).2)) H := hP
      have hD : va_D A (mdW cI am ((fx4_refused M 1).2)) := hD
      generalize eu13 : fx4_refused M 1 = u13 at hR hF hP hD ⊢
      replace hR := bnd_e hR
      replace hF := bnd_p hF
      refine lv_if_eq (tgt := 35) hx hb dX4_start_30 (by decide) (fun c14 => ?_) (fun c14 => ?_)
      · rw [if_pos c14] at hR hF
        refine lv_aload_n hx hb dX4_start_35 rfl (lv_at hl 0 rfl) ?_
        have hs17 := hF
        refine kcV (ci := 4) (q0 := 0) (As := []) (rest := []) E.1 (cx4_saves E am u13.2 hs17) hX (cwV 0 hts gX4_start_X4_saves rfl rfl rfl hdX4_saves ⟨Nat.le_of_ble_eq_true rfl, Nat.le_of_ble_eq_true rfl⟩) hKs hK hP hD hS hA _ _ (kw_self _) (kw_self _).symm rfl rfl rfl rfl hl.1 (Nat.le_of_ble_eq_true rfl) dX4_start_36 ⟨Nat.zero_le _, Nat.zero_le _⟩ (fun H locs hP hD hS => ?_)
        have hP : va_P D vwCl (mdW cI am (fx4_saves u13.2)) H := hP
        have hD : va_D A (mdW cI am (fx4_saves u13.2)) := hD
        generalize eM15 : fx4_saves u13.2 = M15 at hR hP hD
        replace hR := bnd_e hR
        refine lv_aload_n hx hb dX4_start_39 rfl (lv_at hl 0 rfl) ?_
        refine va_get (D := D) (ci := 4) (v := .ref (am 1)) (C := RX4) (T := TX4) (N := 8) hx hb hts hinX4 hown hK hP 0 rfl rfl 0 (by decide) q1 (fun _ h9 => h9) rfl dX4_start_40 ?_
        refine lv_bipush (v := 15) hx hb dX4_start_43 (by decide) ?_
        refine lv_iconst (v := 1) hx hb dX4_start_45 (by decide) ?_
        refine va_iast hx hb hK hP hD hS 1 0 rfl rfl (kin_lit (j := 15) (n := 1203) (by decide) (by decide)) dX4_start_46 (fun H locs hP hD hS => ?_)
        have hP : va_P D vwCl (mdW cI am (va_up M15.1 0 (upd (M15.1 0) 15 1), M15.2)) H := hP
        have hD : va_D A (mdW cI am (va_up M15.1 0 (upd (M15.1 0) 15 1), M15.2)) := hD
        generalize eg16 : upd (M15.1 0) 15 1 = g16 at hR hP hD
        replace hR := bnd_e hR
        refine lv_aload_n hx hb dX4_start_47 rfl (lv_at hl 0 rfl) ?_
        refine va_get (D := D) (ci := 4) (v := .ref (am 1)) (C := RX4) (T := TX4) (N := 8) hx hb hts hinX4 hown hK hP 0 rfl rfl 0 (by decide) q1 (fun _ h9 => h9) rfl dX4_start_48 ?_
        refine lv_bipush (v := 36) hx hb dX4_start_51 (by decide) ?_
        refine va_iald hx hb hK hP 1 0 rfl rfl (kin_lit (j := 36) (n := 1203) (by decide) (by decide)) dX4_start_53 ?_
        refine kw_top (v := .int (g16 36)) rfl ?_
        subst hR
        exact krI hx hb hr hlk hP hD hS dX4_start_54 rfl rfl
      · rw [if_neg c14] at hR hF
        refine lv_iconst (v := 0) hx hb dX4_start_33 (by decide) ?_
        subst hR
        exact krI hx hb hr hlk hP hD hS dX4_start_34 rfl rfl

theorem hdX4_stop : yX4_stop.cls = RX4 ∧ yX4_stop.cls ≠ "java/lang/invoke/MethodHandle" ∧ yX4_stop.cls ≠ "java/lang/invoke/VarHandle" ∧ (parseMethodDescriptor yX4_stop.desc).map (fun d => d.parameters.length) = some 0 := by decide +kernel
def fx4_stop (M : Md) : Int32 × (Md) := (if ((M.1 0) 15) = 0 then (bnd (fx4_refused M 1) (fun u2 => (if u2.1 = 0 then (bnd (fx4_saves u2.2) (fun M4 => (bnd (upd (M4.1 0) 15 0) (fun g5 => (g5 36, (va_up M4.1 0 g5, M4.2)))))) else (0, u2.2)))) else (bnd (fx4_refused M 0) (fun u7 => (if u7.1 = 0 then (bnd (fx4_saves u7.2) (fun M9 => (bnd (upd (M9.1 0) 15 0) (fun g10 => (g10 36, (va_up M9.1 0 g10, M9.2)))))) else (0, u7.2)))))
def sx4_stop (M : Md) : Prop := (if ((M.1 0) 15) = 0 then (bnd (fx4_refused M 1) (fun u2 => (if u2.1 = 0 then sx4_saves u2.2 else True))) else (bnd (fx4_refused M 0) (fun u7 => (if u7.1 = 0 then sx4_saves u7.2 else True))))
set_option maxHeartbeats 4000000 in
set_option maxRecDepth 100000 in
theorem cx4_stop {l : Launch} {D : va_G} {cI cB cS cJ : ClassId} {K : State → Prop} (E : kE D cI cB cS cJ K) (am : Nat → Nat) (M : Md) (hF : sx4_stop M) : kI l D K yX4_stop wsX4_stop 1 21 [.ref (am 0)] (mdW cI am M) (fx4_stop M).1 (mdW cI am ((fx4_stop M).2)) := by
  refine kI_of (own := RX4) (cc := cX4_stop) (maxL := 1) (tys := kty cI cB cS cJ) (fun U h => (E.2 U h).1) (by decide) rfl rfl (Nat.le_of_ble_eq_true rfl) ?_
  intro p e s m below meth c A ls hx hb hr hml hts hown hlk hKs hK hP hD hA hS hl
  have hl : lv_has ls 1 [(0, .ref (am 0))] := hl
  have hX : CallFix p m c cX4_stop 1 s _ wsX4_stop RX4 := ⟨hx, hb, hml, hown, hts⟩
  have hinX4 : ∀ w ∈ wsX40, w ∈ wsX4_stop := fun w h => List.mem_cons_of_mem _ (List.mem_append_right _ h)
  have q1 := hts (.fieldLink RX4 7 "LabelStationModel" "now" "[I") (List.mem_of_getElem? (i := 1) rfl)
  generalize hR : fx4_stop M = R
  rw [fx4_stop] at hR
  rw [sx4_stop] at hF
  refine lv_aload_n hx hb dX4_stop_0 rfl (lv_at hl 0 rfl) ?_
  refine lv_aload_n hx hb dX4_stop_1 rfl (lv_at hl 0 rfl) ?_
  refine va_get (D := D) (ci := 4) (v := .ref (am 1)) (C := RX4) (T := TX4) (N := 8) hx hb hts hinX4 hown hK hP 0 rfl rfl 0 (by decide) q1 (fun _ h9 => h9) rfl dX4_stop_2 ?_
  refine lv_bipush (v := 15) hx hb dX4_stop_5 (by decide) ?_
  refine va_iald hx hb hK hP 1 0 rfl rfl (kin_lit (j := 15) (n := 1203) (by decide) (by decide)) dX4_stop_7 ?_
  refine kw_top (v := .int ((M.1 0) 15)) rfl ?_
  refine lv_if_ne (tgt := 15) hx hb dX4_stop_8 (by decide) (fun c1 => ?_) (fun c1 => ?_)
  · rw [if_neg c1] at hR hF
    refine lv_iconst (v := 0) hx hb dX4_stop_15 (by decide) ?_
    refine kcI (ci := 4) (q0 := 0) (As := [.int 0]) (rest := []) E.1 (cx4_refused E am M 0) hX (cwV 1 hts gX4_stop_X4_refused rfl rfl rfl hdX4_refused ⟨Nat.le_of_ble_eq_true rfl, Nat.le_of_ble_eq_true rfl⟩) hKs hK hP hD hS hA _ _ (kw_self _) (kw_self _).symm rfl rfl rfl rfl hl.1 (Nat.le_of_ble_eq_true rfl) dX4_stop_16 ⟨Nat.zero_le _, Nat.zero_le _⟩ (fun H locs hP hD hS => ?_)
    have hP : va_P D vwCl (mdW cI am ((fx4_refused M 0).2)) H := hP
    have hD : va_D A (mdW cI am ((fx4_refused M 0).2)) := hD
    generalize eu7 : fx4_refused M 0 = u7 at hR hF hP hD ⊢
    replace hR := bnd_e hR
    replace hF := bnd_p hF
    refine lv_if_eq (tgt := 24) hx hb dX4_stop_19 (by decide) (fun c8 => ?_) (fun c8 => ?_)
    · rw [if_pos c8] at hR hF
      refine lv_aload_n hx hb dX4_stop_24 rfl (lv_at hl 0 rfl) ?_
      have hs11 := hF
      refine kcV (ci := 4) (q0 := 0) (As := []) (rest := []) E.1 (cx4_saves E am u7.2 hs11) hX (cwV 0 hts gX4_stop_X4_saves rfl rfl rfl hdX4_saves ⟨Nat.le_of_ble_eq_true rfl, Nat.le_of_ble_eq_true rfl⟩) hKs hK hP hD hS hA _ _ (kw_self _) (kw_self _).symm rfl rfl rfl rfl hl.1 (Nat.le_of_ble_eq_true rfl) dX4_stop_25 ⟨Nat.zero_le _, Nat.zero_le _⟩ (fun H locs hP hD hS => ?_)
      have hP : va_P D vwCl (mdW cI am (fx4_saves u7.2)) H := hP
      have hD : va_D A (mdW cI am (fx4_saves u7.2)) := hD
      generalize eM9 : fx4_saves u7.2 = M9 at hR hP hD
      replace hR := bnd_e hR
      refine lv_aload_n hx hb dX4_stop_28 rfl (lv_at hl 0 rfl) ?_
      refine va_get (D := D) (ci := 4) (v := .ref (am 1)) (C := RX4) (T := TX4) (N := 8) hx hb hts hinX4 hown hK hP 0 rfl rfl 0 (by decide) q1 (fun _ h9 => h9) rfl dX4_stop_29 ?_
      refine lv_bipush (v := 15) hx hb dX4_stop_32 (by decide) ?_
      refine lv_iconst (v := 0) hx hb dX4_stop_34 (by decide) ?_
      refine va_iast hx hb hK hP hD hS 1 0 rfl rfl (kin_lit (j := 15) (n := 1203) (by decide) (by decide)) dX4_stop_35 (fun H locs hP hD hS => ?_)
      have hP : va_P D vwCl (mdW cI am (va_up M9.1 0 (upd (M9.1 0) 15 0), M9.2)) H := hP
      have hD : va_D A (mdW cI am (va_up M9.1 0 (upd (M9.1 0) 15 0), M9.2)) := hD
      generalize eg10 : upd (M9.1 0) 15 0 = g10 at hR hP hD
      replace hR := bnd_e hR
      refine lv_aload_n hx hb dX4_stop_36 rfl (lv_at hl 0 rfl) ?_
      refine va_get (D := D) (ci := 4) (v := .ref (am 1)) (C := RX4) (T := TX4) (N := 8) hx hb hts hinX4 hown hK hP 0 rfl rfl 0 (by decide) q1 (fun _ h9 => h9) rfl dX4_stop_37 ?_
      refine lv_bipush (v := 36) hx hb dX4_stop_40 (by decide) ?_
      refine va_iald hx hb hK hP 1 0 rfl rfl (kin_lit (j := 36) (n := 1203) (by decide) (by decide)) dX4_stop_42 ?_
      refine kw_top (v := .int (g10 36)) rfl ?_
      subst hR
      exact krI hx hb hr hlk hP hD hS dX4_stop_43 rfl rfl
    · rw [if_neg c8] at hR hF
      refine lv_iconst (v := 0) hx hb dX4_stop_22 (by decide) ?_
      subst hR
      exact krI hx hb hr hlk hP hD hS dX4_stop_23 rfl rfl
  · rw [if_pos c1] at hR hF
    refine lv_iconst (v := 1) hx hb dX4_stop_11 (by decide) ?_
    refine lv_goto (tgt := 16) hx hb dX4_stop_12 (by decide) ?_
    refine kcI (ci := 4) (q0 := 0) (As := [.int 1]) (rest := []) E.1 (cx4_refused E am M 1) hX (cwV 1 hts gX4_stop_X4_refused rfl rfl rfl hdX4_refused ⟨Nat.le_of_ble_eq_true rfl, Nat.le_of_ble_eq_true rfl⟩) hKs hK hP hD hS hA _ _ (kw_self _) (kw_self _).symm rfl rfl rfl rfl hl.1 (Nat.le_of_ble_eq_true rfl) dX4_stop_16 ⟨Nat.zero_le _, Nat.zero_le _⟩ (fun H locs hP hD hS => ?_)
    have hP : va_P D vwCl (mdW cI am ((fx4_refused M 1).2)) H := hP
    have hD : va_D A (mdW cI am ((fx4_refused M 1).2)) := hD
    generalize eu2 : fx4_refused M 1 = u2 at hR hF hP hD ⊢
    replace hR := bnd_e hR
    replace hF := bnd_p hF
    refine lv_if_eq (tgt := 24) hx hb dX4_stop_19 (by decide) (fun c3 => ?_) (fun c3 => ?_)
    · rw [if_pos c3] at hR hF
      refine lv_aload_n hx hb dX4_stop_24 rfl (lv_at hl 0 rfl) ?_
      have hs6 := hF
      refine kcV (ci := 4) (q0 := 0) (As := []) (rest := []) E.1 (cx4_saves E am u2.2 hs6) hX (cwV 0 hts gX4_stop_X4_saves rfl rfl rfl hdX4_saves ⟨Nat.le_of_ble_eq_true rfl, Nat.le_of_ble_eq_true rfl⟩) hKs hK hP hD hS hA _ _ (kw_self _) (kw_self _).symm rfl rfl rfl rfl hl.1 (Nat.le_of_ble_eq_true rfl) dX4_stop_25 ⟨Nat.zero_le _, Nat.zero_le _⟩ (fun H locs hP hD hS => ?_)
      have hP : va_P D vwCl (mdW cI am (fx4_saves u2.2)) H := hP
      have hD : va_D A (mdW cI am (fx4_saves u2.2)) := hD
      generalize eM4 : fx4_saves u2.2 = M4 at hR hP hD
      replace hR := bnd_e hR
      refine lv_aload_n hx hb dX4_stop_28 rfl (lv_at hl 0 rfl) ?_
      refine va_get (D := D) (ci := 4) (v := .ref (am 1)) (C := RX4) (T := TX4) (N := 8) hx hb hts hinX4 hown hK hP 0 rfl rfl 0 (by decide) q1 (fun _ h9 => h9) rfl dX4_stop_29 ?_
      refine lv_bipush (v := 15) hx hb dX4_stop_32 (by decide) ?_
      refine lv_iconst (v := 0) hx hb dX4_stop_34 (by decide) ?_
      refine va_iast hx hb hK hP hD hS 1 0 rfl rfl (kin_lit (j := 15) (n := 1203) (by decide) (by decide)) dX4_stop_35 (fun H locs hP hD hS => ?_)
      have hP : va_P D vwCl (mdW cI am (va_up M4.1 0 (upd (M4.1 0) 15 0), M4.2)) H := hP
      have hD : va_D A (mdW cI am (va_up M4.1 0 (upd (M4.1 0) 15 0), M4.2)) := hD
      generalize eg5 : upd (M4.1 0) 15 0 = g5 at hR hP hD
      replace hR := bnd_e hR
      refine lv_aload_n hx hb dX4_stop_36 rfl (lv_at hl 0 rfl) ?_
      refine va_get (D := D) (ci := 4) (v := .ref (am 1)) (C := RX4) (T := TX4) (N := 8) hx hb hts hinX4 hown hK hP 0 rfl rfl 0 (by decide) q1 (fun _ h9 => h9) rfl dX4_stop_37 ?_
      refine lv_bipush (v := 36) hx hb dX4_stop_40 (by decide) ?_
      refine va_iald hx hb hK hP 1 0 rfl rfl (kin_lit (j := 36) (n := 1203) (by decide) (by decide)) dX4_stop_42 ?_
      refine kw_top (v := .int (g5 36)) rfl ?_
      subst hR
      exact krI hx hb hr hlk hP hD hS dX4_stop_43 rfl rfl
    · rw [if_neg c3] at hR hF
      refine lv_iconst (v := 0) hx hb dX4_stop_22 (by decide) ?_
      subst hR
      exact krI hx hb hr hlk hP hD hS dX4_stop_23 rfl rfl

theorem hdX4_reset : yX4_reset.cls = RX4 ∧ yX4_reset.cls ≠ "java/lang/invoke/MethodHandle" ∧ yX4_reset.cls ≠ "java/lang/invoke/VarHandle" ∧ (parseMethodDescriptor yX4_reset.desc).map (fun d => d.parameters.length) = some 0 := by decide +kernel
def fx4_reset (M : Md) : Int32 × (Md) := (if ((M.1 0) 16) = 0 then (bnd (fx4_refused M 1) (fun u2 => (if u2.1 = 0 then (bnd (fx4_saves u2.2) (fun M4 => (bnd (upd (M4.1 0) 16 0) (fun g5 => ((M4.1 0) 16, (va_up M4.1 0 g5, M4.2)))))) else (0, u2.2)))) else (bnd (fx4_refused M 0) (fun u7 => (if u7.1 = 0 then (bnd (fx4_saves u7.2) (fun M9 => (bnd (upd (M9.1 0) 16 0) (fun g10 => ((M9.1 0) 16, (va_up M9.1 0 g10, M9.2)))))) else (0, u7.2)))))
def sx4_reset (M : Md) : Prop := (if ((M.1 0) 16) = 0 then (bnd (fx4_refused M 1) (fun u2 => (if u2.1 = 0 then sx4_saves u2.2 else True))) else (bnd (fx4_refused M 0) (fun u7 => (if u7.1 = 0 then sx4_saves u7.2 else True))))
set_option maxHeartbeats 4000000 in
set_option maxRecDepth 100000 in
theorem cx4_reset {l : Launch} {D : va_G} {cI cB cS cJ : ClassId} {K : State → Prop} (E : kE D cI cB cS cJ K) (am : Nat → Nat) (M : Md) (hF : sx4_reset M) : kI l D K yX4_reset wsX4_reset 1 21 [.ref (am 0)] (mdW cI am M) (fx4_reset M).1 (mdW cI am ((fx4_reset M).2)) := by
  refine kI_of (own := RX4) (cc := cX4_reset) (maxL := 2) (tys := kty cI cB cS cJ) (fun U h => (E.2 U h).1) (by decide) rfl rfl (Nat.le_of_ble_eq_true rfl) ?_
  intro p e s m below meth c A ls hx hb hr hml hts hown hlk hKs hK hP hD hA hS hl
  have hl : lv_has ls 2 [(0, .ref (am 0))] := hl
  have hX : CallFix p m c cX4_reset 2 s _ wsX4_reset RX4 := ⟨hx, hb, hml, hown, hts⟩
  have hinX4 : ∀ w ∈ wsX40, w ∈ wsX4_reset := fun w h => List.mem_cons_of_mem _ (List.mem_append_right _ h)
  have q1 := hts (.fieldLink RX4 7 "LabelStationModel" "now" "[I") (List.mem_of_getElem? (i := 1) rfl)
  generalize hR : fx4_reset M = R
  rw [fx4_reset] at hR
  rw [sx4_reset] at hF
  refine lv_aload_n hx hb dX4_reset_0 rfl (lv_at hl 0 rfl) ?_
  refine lv_aload_n hx hb dX4_reset_1 rfl (lv_at hl 0 rfl) ?_
  refine va_get (D := D) (ci := 4) (v := .ref (am 1)) (C := RX4) (T := TX4) (N := 8) hx hb hts hinX4 hown hK hP 0 rfl rfl 0 (by decide) q1 (fun _ h9 => h9) rfl dX4_reset_2 ?_
  refine lv_bipush (v := 16) hx hb dX4_reset_5 (by decide) ?_
  refine va_iald hx hb hK hP 1 0 rfl rfl (kin_lit (j := 16) (n := 1203) (by decide) (by decide)) dX4_reset_7 ?_
  refine kw_top (v := .int ((M.1 0) 16)) rfl ?_
  refine lv_if_ne (tgt := 15) hx hb dX4_reset_8 (by decide) (fun c1 => ?_) (fun c1 => ?_)
  · rw [if_neg c1] at hR hF
    refine lv_iconst (v := 0) hx hb dX4_reset_15 (by decide) ?_
    refine kcI (ci := 4) (q0 := 0) (As := [.int 0]) (rest := []) E.1 (cx4_refused E am M 0) hX (cwV 1 hts gX4_reset_X4_refused rfl rfl rfl hdX4_refused ⟨Nat.le_of_ble_eq_true rfl, Nat.le_of_ble_eq_true rfl⟩) hKs hK hP hD hS hA _ _ (kw_self _) (kw_self _).symm rfl rfl rfl rfl hl.1 (Nat.le_of_ble_eq_true rfl) dX4_reset_16 ⟨Nat.zero_le _, Nat.zero_le _⟩ (fun H locs hP hD hS => ?_)
    have hP : va_P D vwCl (mdW cI am ((fx4_refused M 0).2)) H := hP
    have hD : va_D A (mdW cI am ((fx4_refused M 0).2)) := hD
    generalize eu7 : fx4_refused M 0 = u7 at hR hF hP hD ⊢
    replace hR := bnd_e hR
    replace hF := bnd_p hF
    refine lv_if_eq (tgt := 24) hx hb dX4_reset_19 (by decide) (fun c8 => ?_) (fun c8 => ?_)
    · rw [if_pos c8] at hR hF
      refine lv_aload_n hx hb dX4_reset_24 rfl (lv_at hl 0 rfl) ?_
      have hs11 := hF
      refine kcV (ci := 4) (q0 := 0) (As := []) (rest := []) E.1 (cx4_saves E am u7.2 hs11) hX (cwV 0 hts gX4_reset_X4_saves rfl rfl rfl hdX4_saves ⟨Nat.le_of_ble_eq_true rfl, Nat.le_of_ble_eq_true rfl⟩) hKs hK hP hD hS hA _ _ (kw_self _) (kw_self _).symm rfl rfl rfl rfl hl.1 (Nat.le_of_ble_eq_true rfl) dX4_reset_25 ⟨Nat.zero_le _, Nat.zero_le _⟩ (fun H locs hP hD hS => ?_)
      have hP : va_P D vwCl (mdW cI am (fx4_saves u7.2)) H := hP
      have hD : va_D A (mdW cI am (fx4_saves u7.2)) := hD
      generalize eM9 : fx4_saves u7.2 = M9 at hR hP hD
      replace hR := bnd_e hR
      refine lv_aload_n hx hb dX4_reset_28 rfl (lv_at hl 0 rfl) ?_
      refine va_get (D := D) (ci := 4) (v := .ref (am 1)) (C := RX4) (T := TX4) (N := 8) hx hb hts hinX4 hown hK hP 0 rfl rfl 0 (by decide) q1 (fun _ h9 => h9) rfl dX4_reset_29 ?_
      refine lv_bipush (v := 16) hx hb dX4_reset_32 (by decide) ?_
      refine va_iald hx hb hK hP 1 0 rfl rfl (kin_lit (j := 16) (n := 1203) (by decide) (by decide)) dX4_reset_34 ?_
      refine kw_top (v := .int ((M9.1 0) 16)) rfl ?_
      refine lv_istore_n (lv' := [(1, .int ((M9.1 0) 16)), (0, .ref (am 0))]) hx hb dX4_reset_35 rfl hl (by decide) rfl (fun ls hl => ?_)
      refine lv_aload_n hx hb dX4_reset_36 rfl (lv_at hl 1 rfl) ?_
      refine va_get (D := D) (ci := 4) (v := .ref (am 1)) (C := RX4) (T := TX4) (N := 8) hx hb hts hinX4 hown hK hP 0 rfl rfl 0 (by decide) q1 (fun _ h9 => h9) rfl dX4_reset_37 ?_
      refine lv_bipush (v := 16) hx hb dX4_reset_40 (by decide) ?_
      refine lv_iconst (v := 0) hx hb dX4_reset_42 (by decide) ?_
      refine va_iast hx hb hK hP hD hS 1 0 rfl rfl (kin_lit (j := 16) (n := 1203) (by decide) (by decide)) dX4_reset_43 (fun H locs hP hD hS => ?_)
      have hP : va_P D vwCl (mdW cI am (va_up M9.1 0 (upd (M9.1 0) 16 0), M9.2)) H := hP
      have hD : va_D A (mdW cI am (va_up M9.1 0 (upd (M9.1 0) 16 0), M9.2)) := hD
      generalize eg10 : upd (M9.1 0) 16 0 = g10 at hR hP hD
      replace hR := bnd_e hR
      refine lv_iload_n hx hb dX4_reset_44 rfl (lv_at hl 0 rfl) ?_
      subst hR
      exact krI hx hb hr hlk hP hD hS dX4_reset_45 rfl rfl
    · rw [if_neg c8] at hR hF
      refine lv_iconst (v := 0) hx hb dX4_reset_22 (by decide) ?_
      subst hR
      exact krI hx hb hr hlk hP hD hS dX4_reset_23 rfl rfl
  · rw [if_pos c1] at hR hF
    refine lv_iconst (v := 1) hx hb dX4_reset_11 (by decide) ?_
    refine lv_goto (tgt := 16) hx hb dX4_reset_12 (by decide) ?_
    refine kcI (ci := 4) (q0 := 0) (As := [.int 1]) (rest := []) E.1 (cx4_refused E am M 1) hX (cwV 1 hts gX4_reset_X4_refused rfl rfl rfl hdX4_refused ⟨Nat.le_of_ble_eq_true rfl, Nat.le_of_ble_eq_true rfl⟩) hKs hK hP hD hS hA _ _ (kw_self _) (kw_self _).symm rfl rfl rfl rfl hl.1 (Nat.le_of_ble_eq_true rfl) dX4_reset_16 ⟨Nat.zero_le _, Nat.zero_le _⟩ (fun H locs hP hD hS => ?_)
    have hP : va_P D vwCl (mdW cI am ((fx4_refused M 1).2)) H := hP
    have hD : va_D A (mdW cI am ((fx4_refused M 1).2)) := hD
    generalize eu2 : fx4_refused M 1 = u2 at hR hF hP hD ⊢
    replace hR := bnd_e hR
    replace hF := bnd_p hF
    refine lv_if_eq (tgt := 24) hx hb dX4_reset_19 (by decide) (fun c3 => ?_) (fun c3 => ?_)
    · rw [if_pos c3] at hR hF
      refine lv_aload_n hx hb dX4_reset_24 rfl (lv_at hl 0 rfl) ?_
      have hs6 := hF
      refine kcV (ci := 4) (q0 := 0) (As := []) (rest := []) E.1 (cx4_saves E am u2.2 hs6) hX (cwV 0 hts gX4_reset_X4_saves rfl rfl rfl hdX4_saves ⟨Nat.le_of_ble_eq_true rfl, Nat.le_of_ble_eq_true rfl⟩) hKs hK hP hD hS hA _ _ (kw_self _) (kw_self _).symm rfl rfl rfl rfl hl.1 (Nat.le_of_ble_eq_true rfl) dX4_reset_25 ⟨Nat.zero_le _, Nat.zero_le _⟩ (fun H locs hP hD hS => ?_)
      have hP : va_P D vwCl (mdW cI am (fx4_saves u2.2)) H := hP
      have hD : va_D A (mdW cI am (fx4_saves u2.2)) := hD
      generalize eM4 : fx4_saves u2.2 = M4 at hR hP hD
      replace hR := bnd_e hR
      refine lv_aload_n hx hb dX4_reset_28 rfl (lv_at hl 0 rfl) ?_
      refine va_get (D := D) (ci := 4) (v := .ref (am 1)) (C := RX4) (T := TX4) (N := 8) hx hb hts hinX4 hown hK hP 0 rfl rfl 0 (by decide) q1 (fun _ h9 => h9) rfl dX4_reset_29 ?_
      refine lv_bipush (v := 16) hx hb dX4_reset_32 (by decide) ?_
      refine va_iald hx hb hK hP 1 0 rfl rfl (kin_lit (j := 16) (n := 1203) (by decide) (by decide)) dX4_reset_34 ?_
      refine kw_top (v := .int ((M4.1 0) 16)) rfl ?_
      refine lv_istore_n (lv' := [(1, .int ((M4.1 0) 16)), (0, .ref (am 0))]) hx hb dX4_reset_35 rfl hl (by decide) rfl (fun ls hl => ?_)
      refine lv_aload_n hx hb dX4_reset_36 rfl (lv_at hl 1 rfl) ?_
      refine va_get (D := D) (ci := 4) (v := .ref (am 1)) (C := RX4) (T := TX4) (N := 8) hx hb hts hinX4 hown hK hP 0 rfl rfl 0 (by decide) q1 (fun _ h9 => h9) rfl dX4_reset_37 ?_
      refine lv_bipush (v := 16) hx hb dX4_reset_40 (by decide) ?_
      refine lv_iconst (v := 0) hx hb dX4_reset_42 (by decide) ?_
      refine va_iast hx hb hK hP hD hS 1 0 rfl rfl (kin_lit (j := 16) (n := 1203) (by decide) (by decide)) dX4_reset_43 (fun H locs hP hD hS => ?_)
      have hP : va_P D vwCl (mdW cI am (va_up M4.1 0 (upd (M4.1 0) 16 0), M4.2)) H := hP
      have hD : va_D A (mdW cI am (va_up M4.1 0 (upd (M4.1 0) 16 0), M4.2)) := hD
      generalize eg5 : upd (M4.1 0) 16 0 = g5 at hR hP hD
      replace hR := bnd_e hR
      refine lv_iload_n hx hb dX4_reset_44 rfl (lv_at hl 0 rfl) ?_
      subst hR
      exact krI hx hb hr hlk hP hD hS dX4_reset_45 rfl rfl
    · rw [if_neg c3] at hR hF
      refine lv_iconst (v := 0) hx hb dX4_reset_22 (by decide) ?_
      subst hR
      exact krI hx hb hr hlk hP hD hS dX4_reset_23 rfl rfl

theorem hdX4_feed : yX4_feed.cls = RX4 ∧ yX4_feed.cls ≠ "java/lang/invoke/MethodHandle" ∧ yX4_feed.cls ≠ "java/lang/invoke/VarHandle" ∧ (parseMethodDescriptor yX4_feed.desc).map (fun d => d.parameters.length) = some 1 := by decide +kernel
def fx4_feed (M : Md) (x1 : Int32) : Int32 × (Md) := (bnd (fx4_barFeed (M.1 0) x1) (fun v1 => (bnd (fx4_refused M v1) (fun u2 => (if u2.1 = 0 then (bnd (fx4_saves u2.2) (fun M4 => (bnd (fx4_feeds (M4.1 0) x1) (fun u5 => (u5.1, (va_up M4.1 0 u5.2, M4.2)))))) else (0, u2.2))))))
def sx4_feed (M : Md) (x1 : Int32) : Prop := (sx4_barFeed (M.1 0) x1 ∧ (bnd (fx4_barFeed (M.1 0) x1) (fun v1 => (bnd (fx4_refused M v1) (fun u2 => (if u2.1 = 0 then (sx4_saves u2.2 ∧ (bnd (fx4_saves u2.2) (fun M4 => sx4_feeds (M4.1 0) x1))) else True))))))
set_option maxHeartbeats 4000000 in
set_option maxRecDepth 100000 in
theorem cx4_feed {l : Launch} {D : va_G} {cI cB cS cJ : ClassId} {K : State → Prop} (E : kE D cI cB cS cJ K) (am : Nat → Nat) (M : Md) (x1 : Int32) (hF : sx4_feed M x1) : kI l D K yX4_feed wsX4_feed 2 46 [.ref (am 0), .int x1] (mdW cI am M) (fx4_feed M x1).1 (mdW cI am ((fx4_feed M x1).2)) := by
  refine kI_of (own := RX4) (cc := cX4_feed) (maxL := 2) (tys := kty cI cB cS cJ) (fun U h => (E.2 U h).1) (by decide) rfl rfl (Nat.le_of_ble_eq_true rfl) ?_
  intro p e s m below meth c A ls hx hb hr hml hts hown hlk hKs hK hP hD hA hS hl
  have hl : lv_has ls 2 [(0, .ref (am 0)), (1, .int x1)] := hl
  have hX : CallFix p m c cX4_feed 2 s _ wsX4_feed RX4 := ⟨hx, hb, hml, hown, hts⟩
  generalize hR : fx4_feed M x1 = R
  rw [fx4_feed] at hR
  rw [sx4_feed] at hF
  refine lv_aload_n hx hb dX4_feed_0 rfl (lv_at hl 0 rfl) ?_
  refine lv_aload_n hx hb dX4_feed_1 rfl (lv_at hl 0 rfl) ?_
  refine lv_iload_n hx hb dX4_feed_2 rfl (lv_at hl 1 rfl) ?_
  obtain ⟨hs8, hF⟩ := hF
  refine kcI (ci := 4) (q0 := 0) (As := [.int x1]) (rest := [.ref (am 0)]) E.1 (cx4_barFeed E am (M.1 4 0) (M.1 4 1) (M.1 4 2) M.2 (M.1 0) x1 hs8) hX (cwV 1 hts gX4_feed_X4_barFeed rfl rfl rfl hdX4_barFeed ⟨Nat.le_of_ble_eq_true rfl, Nat.le_of_ble_eq_true rfl⟩) hKs hK hP hD hS hA _ _ (md_mn cI am M) (md_mn cI am M).symm rfl rfl rfl rfl hl.1 (Nat.le_of_ble_eq_true rfl) dX4_feed_3 ⟨Nat.zero_le _, Nat.zero_le _⟩ (fun H locs hP hD hS => ?_)
  generalize ev1 : fx4_barFeed (M.1 0) x1 = v1 at hR hF ⊢
  replace hR := bnd_e hR
  replace hF := bnd_p hF
  refine kcI (ci := 4) (q0 := 0) (As := [.int v1]) (rest := []) E.1 (cx4_refused E am M v1) hX (cwV 1 hts gX4_feed_X4_refused rfl rfl rfl hdX4_refused ⟨Nat.le_of_ble_eq_true rfl, Nat.le_of_ble_eq_true rfl⟩) hKs hK hP hD hS hA _ _ (kw_self _) (kw_self _).symm rfl rfl rfl rfl hl.1 (Nat.le_of_ble_eq_true rfl) dX4_feed_6 ⟨Nat.zero_le _, Nat.zero_le _⟩ (fun H locs hP hD hS => ?_)
  have hP : va_P D vwCl (mdW cI am ((fx4_refused M v1).2)) H := hP
  have hD : va_D A (mdW cI am ((fx4_refused M v1).2)) := hD
  generalize eu2 : fx4_refused M v1 = u2 at hR hF hP hD ⊢
  replace hR := bnd_e hR
  replace hF := bnd_p hF
  refine lv_if_eq (tgt := 14) hx hb dX4_feed_9 (by decide) (fun c3 => ?_) (fun c3 => ?_)
  · rw [if_pos c3] at hR hF
    refine lv_aload_n hx hb dX4_feed_14 rfl (lv_at hl 0 rfl) ?_
    obtain ⟨hs7, hF⟩ := hF
    refine kcV (ci := 4) (q0 := 0) (As := []) (rest := []) E.1 (cx4_saves E am u2.2 hs7) hX (cwV 0 hts gX4_feed_X4_saves rfl rfl rfl hdX4_saves ⟨Nat.le_of_ble_eq_true rfl, Nat.le_of_ble_eq_true rfl⟩) hKs hK hP hD hS hA _ _ (kw_self _) (kw_self _).symm rfl rfl rfl rfl hl.1 (Nat.le_of_ble_eq_true rfl) dX4_feed_15 ⟨Nat.zero_le _, Nat.zero_le _⟩ (fun H locs hP hD hS => ?_)
    have hP : va_P D vwCl (mdW cI am (fx4_saves u2.2)) H := hP
    have hD : va_D A (mdW cI am (fx4_saves u2.2)) := hD
    generalize eM4 : fx4_saves u2.2 = M4 at hR hF hP hD
    replace hR := bnd_e hR
    replace hF := bnd_p hF
    refine lv_aload_n hx hb dX4_feed_18 rfl (lv_at hl 0 rfl) ?_
    refine lv_iload_n hx hb dX4_feed_19 rfl (lv_at hl 1 rfl) ?_
    have hs6 := hF
    refine kcI (ci := 4) (q0 := 0) (As := [.int x1]) (rest := []) E.1 (cx4_feeds E am (M4.1 4 0) (M4.1 4 1) (M4.1 4 2) M4.2 (M4.1 0) x1 hs6) hX (cwV 1 hts gX4_feed_X4_feeds rfl rfl rfl hdX4_feeds ⟨Nat.le_of_ble_eq_true rfl, Nat.le_of_ble_eq_true rfl⟩) hKs hK hP hD hS hA _ _ (md_mn cI am M4) (md_mn' cI am M4 _) rfl rfl rfl rfl hl.1 (Nat.le_of_ble_eq_true rfl) dX4_feed_20 ⟨Nat.zero_le _, Nat.zero_le _⟩ (fun H locs hP hD hS => ?_)
    have hP : va_P D vwCl (mdW cI am (va_up M4.1 0 ((fx4_feeds (M4.1 0) x1).2), M4.2)) H := hP
    have hD : va_D A (mdW cI am (va_up M4.1 0 ((fx4_feeds (M4.1 0) x1).2), M4.2)) := hD
    generalize eu5 : fx4_feeds (M4.1 0) x1 = u5 at hR hP hD ⊢
    replace hR := bnd_e hR
    subst hR
    exact krI hx hb hr hlk hP hD hS dX4_feed_23 rfl rfl
  · rw [if_neg c3] at hR hF
    refine lv_iconst (v := 0) hx hb dX4_feed_12 (by decide) ?_
    subst hR
    exact krI hx hb hr hlk hP hD hS dX4_feed_13 rfl rfl

theorem hdX4_slip : yX4_slip.cls = RX4 ∧ yX4_slip.cls ≠ "java/lang/invoke/MethodHandle" ∧ yX4_slip.cls ≠ "java/lang/invoke/VarHandle" ∧ (parseMethodDescriptor yX4_slip.desc).map (fun d => d.parameters.length) = some 2 := by decide +kernel
def fx4_slip (M : Md) (x1 : Int32) (x2 : Int32) : Int32 × (Md) := (bnd (fx4_itemOf (M.1 0) x1) (fun v1 => (if v1 = (-1) then (bnd (fx4_refused M 1) (fun u3 => (if u3.1 = 0 then (bnd (fx4_saves u3.2) (fun M5 => (bnd (upd (M5.1 0) (fx4_thing v1 1).toNatClampNeg (((M5.1 0) (fx4_thing v1 1).toNatClampNeg) + x2)) (fun g8 => (g8 (fx4_thing v1 1).toNatClampNeg, (va_up M5.1 0 g8, M5.2)))))) else (0, u3.2)))) else (if (fx4_within x2 (-30) 30) = 0 then (bnd (fx4_refused M 2) (fun u12 => (if u12.1 = 0 then (bnd (fx4_saves u12.2) (fun M14 => (bnd (upd (M14.1 0) (fx4_thing v1 1).toNatClampNeg (((M14.1 0) (fx4_thing v1 1).toNatClampNeg) + x2)) (fun g17 => (g17 (fx4_thing v1 1).toNatClampNeg, (va_up M14.1 0 g17, M14.2)))))) else (0, u12.2)))) else (if (fx4_within (((M.1 0) (fx4_thing v1 1).toNatClampNeg) + x2) 0 (((M.1 0) 11) - 1)) = 0 then (bnd (fx4_refused M 2) (fun u22 => (if u22.1 = 0 then (bnd (fx4_saves u22.2) (fun M24 => (bnd (upd (M24.1 0) (fx4_thing v1 1).toNatClampNeg (((M24.1 0) (fx4_thing v1 1).toNatClampNeg) + x2)) (fun g27 => (g27 (fx4_thing v1 1).toNatClampNeg, (va_up M24.1 0 g27, M24.2)))))) else (0, u22.2)))) else (bnd (fx4_refused M 0) (fun u30 => (if u30.1 = 0 then (bnd (fx4_saves u30.2) (fun M32 => (bnd (upd (M32.1 0) (fx4_thing v1 1).toNatClampNeg (((M32.1 0) (fx4_thing v1 1).toNatClampNeg) + x2)) (fun g35 => (g35 (fx4_thing v1 1).toNatClampNeg, (va_up M32.1 0 g35, M32.2)))))) else (0, u30.2)))))))))
def sx4_slip (M : Md) (x1 : Int32) (x2 : Int32) : Prop := (sx4_itemOf (M.1 0) x1 ∧ (bnd (fx4_itemOf (M.1 0) x1) (fun v1 => (if v1 = (-1) then (bnd (fx4_refused M 1) (fun u3 => (if u3.1 = 0 then (sx4_saves u3.2 ∧ (bnd (fx4_saves u3.2) (fun M5 => (vp_in (fx4_thing v1 1) 1203 ∧ (vp_in (fx4_thing v1 1) 1203 ∧ (bnd (upd (M5.1 0) (fx4_thing v1 1).toNatClampNeg (((M5.1 0) (fx4_thing v1 1).toNatClampNeg) + x2)) (fun g8 => vp_in (fx4_thing v1 1) 1203))))))) else True))) else (if (fx4_within x2 (-30) 30) = 0 then (bnd (fx4_refused M 2) (fun u12 => (if u12.1 = 0 then (sx4_saves u12.2 ∧ (bnd (fx4_saves u12.2) (fun M14 => (vp_in (fx4_thing v1 1) 1203 ∧ (vp_in (fx4_thing v1 1) 1203 ∧ (bnd (upd (M14.1 0) (fx4_thing v1 1).toNatClampNeg (((M14.1 0) (fx4_thing v1 1).toNatClampNeg) + x2)) (fun g17 => vp_in (fx4_thing v1 1) 1203))))))) else True))) else (vp_in (fx4_thing v1 1) 1203 ∧ (if (fx4_within (((M.1 0) (fx4_thing v1 1).toNatClampNeg) + x2) 0 (((M.1 0) 11) - 1)) = 0 then (bnd (fx4_refused M 2) (fun u22 => (if u22.1 = 0 then (sx4_saves u22.2 ∧ (bnd (fx4_saves u22.2) (fun M24 => (vp_in (fx4_thing v1 1) 1203 ∧ (vp_in (fx4_thing v1 1) 1203 ∧ (bnd (upd (M24.1 0) (fx4_thing v1 1).toNatClampNeg (((M24.1 0) (fx4_thing v1 1).toNatClampNeg) + x2)) (fun g27 => vp_in (fx4_thing v1 1) 1203))))))) else True))) else (bnd (fx4_refused M 0) (fun u30 => (if u30.1 = 0 then (sx4_saves u30.2 ∧ (bnd (fx4_saves u30.2) (fun M32 => (vp_in (fx4_thing v1 1) 1203 ∧ (vp_in (fx4_thing v1 1) 1203 ∧ (bnd (upd (M32.1 0) (fx4_thing v1 1).toNatClampNeg (((M32.1 0) (fx4_thing v1 1).toNatClampNeg) + x2)) (fun g35 => vp_in (fx4_thing v1 1) 1203))))))) else True))))))))))
set_option maxHeartbeats 4000000 in
set_option maxRecDepth 100000 in
theorem cx4_slip {l : Launch} {D : va_G} {cI cB cS cJ : ClassId} {K : State → Prop} (E : kE D cI cB cS cJ K) (am : Nat → Nat) (M : Md) (x1 : Int32) (x2 : Int32) (hF : sx4_slip M x1 x2) : kI l D K yX4_slip wsX4_slip 2 44 [.ref (am 0), .int x1, .int x2] (mdW cI am M) (fx4_slip M x1 x2).1 (mdW cI am ((fx4_slip M x1 x2).2)) := by
  refine kI_of (own := RX4) (cc := cX4_slip) (maxL := 5) (tys := kty cI cB cS cJ) (fun U h => (E.2 U h).1) (by decide) rfl rfl (Nat.le_of_ble_eq_true rfl) ?_
  intro p e s m below meth c A ls hx hb hr hml hts hown hlk hKs hK hP hD hA hS hl
  have hl : lv_has ls 5 [(0, .ref (am 0)), (1, .int x1), (2, .int x2)] := hl
  have hX : CallFix p m c cX4_slip 5 s _ wsX4_slip RX4 := ⟨hx, hb, hml, hown, hts⟩
  have hinX4 : ∀ w ∈ wsX40, w ∈ wsX4_slip := fun w h => List.mem_cons_of_mem _ (List.mem_append_right _ h)
  have q1 := hts (.fieldLink RX4 7 "LabelStationModel" "now" "[I") (List.mem_of_getElem? (i := 1) rfl)
  generalize hR : fx4_slip M x1 x2 = R
  rw [fx4_slip] at hR
  rw [sx4_slip] at hF
  refine lv_aload_n hx hb dX4_slip_0 rfl (lv_at hl 0 rfl) ?_
  refine lv_iload_n hx hb dX4_slip_1 rfl (lv_at hl 1 rfl) ?_
  obtain ⟨hs38, hF⟩ := hF
  refine kcI (ci := 4) (q0 := 0) (As := [.int x1]) (rest := []) E.1 (cx4_itemOf E am (M.1 4 0) (M.1 4 1) (M.1 4 2) M.2 (M.1 0) x1 hs38) hX (cwV 1 hts gX4_slip_X4_itemOf rfl rfl rfl hdX4_itemOf ⟨Nat.le_of_ble_eq_true rfl, Nat.le_of_ble_eq_true rfl⟩) hKs hK hP hD hS hA _ _ (md_mn cI am M) (md_mn cI am M).symm rfl rfl rfl rfl hl.1 (Nat.le_of_ble_eq_true rfl) dX4_slip_2 ⟨Nat.zero_le _, Nat.zero_le _⟩ (fun H locs hP hD hS => ?_)
  generalize ev1 : fx4_itemOf (M.1 0) x1 = v1 at hR hF ⊢
  replace hR := bnd_e hR
  replace hF := bnd_p hF
  refine lv_istore_n (lv' := [(3, .int v1), (0, .ref (am 0)), (1, .int x1), (2, .int x2)]) hx hb dX4_slip_5 rfl hl (by decide) rfl (fun ls hl => ?_)
  refine lv_iload_n hx hb dX4_slip_6 rfl (lv_at hl 0 rfl) ?_
  refine lv_iconst (v := (-1)) hx hb dX4_slip_7 (by decide) ?_
  refine lv_icmp_eq (tgt := 54) hx hb dX4_slip_8 (by decide) (fun c2 => ?_) (fun c2 => ?_)
  · rw [if_pos c2] at hR hF
    refine lv_iconst (v := 0) hx hb dX4_slip_54 (by decide) ?_
    refine lv_istore (lv' := [(4, .int 0), (3, .int v1), (0, .ref (am 0)), (1, .int x1), (2, .int x2)]) hx hb dX4_slip_55 hl (by decide) rfl (fun ls hl => ?_)
    refine lv_aload_n hx hb dX4_slip_57 rfl (lv_at hl 2 rfl) ?_
    refine lv_iload_n hx hb dX4_slip_58 rfl (lv_at hl 1 rfl) ?_
    refine lv_iconst (v := (-1)) hx hb dX4_slip_59 (by decide) ?_
    refine lv_icmp_ne (tgt := 67) hx hb dX4_slip_60 (by decide) (fun c => absurd c2 c) (fun _ => ?_)
    refine lv_iconst (v := 1) hx hb dX4_slip_63 (by decide) ?_
    refine lv_goto (tgt := 77) hx hb dX4_slip_64 (by decide) ?_
    refine kcI (ci := 4) (q0 := 0) (As := [.int 1]) (rest := []) E.1 (cx4_refused E am M 1) hX (cwV 1 hts gX4_slip_X4_refused rfl rfl rfl hdX4_refused ⟨Nat.le_of_ble_eq_true rfl, Nat.le_of_ble_eq_true rfl⟩) hKs hK hP hD hS hA _ _ (kw_self _) (kw_self _).symm rfl rfl rfl rfl hl.1 (Nat.le_of_ble_eq_true rfl) dX4_slip_77 ⟨Nat.zero_le _, Nat.zero_le _⟩ (fun H locs hP hD hS => ?_)
    have hP : va_P D vwCl (mdW cI am ((fx4_refused M 1).2)) H := hP
    have hD : va_D A (mdW cI am ((fx4_refused M 1).2)) := hD
    generalize eu3 : fx4_refused M 1 = u3 at hR hF hP hD ⊢
    replace hR := bnd_e hR
    replace hF := bnd_p hF
    refine lv_if_eq (tgt := 85) hx hb dX4_slip_80 (by decide) (fun c4 => ?_) (fun c4 => ?_)
    · rw [if_pos c4] at hR hF
      refine lv_aload_n hx hb dX4_slip_85 rfl (lv_at hl 2 rfl) ?_
      obtain ⟨hs10, hF⟩ := hF
      refine kcV (ci := 4) (q0 := 0) (As := []) (rest := []) E.1 (cx4_saves E am u3.2 hs10) hX (cwV 0 hts gX4_slip_X4_saves rfl rfl rfl hdX4_saves ⟨Nat.le_of_ble_eq_true rfl, Nat.le_of_ble_eq_true rfl⟩) hKs hK hP hD hS hA _ _ (kw_self _) (kw_self _).symm rfl rfl rfl rfl hl.1 (Nat.le_of_ble_eq_true rfl) dX4_slip_86 ⟨Nat.zero_le _, Nat.zero_le _⟩ (fun H locs hP hD hS => ?_)
      have hP : va_P D vwCl (mdW cI am (fx4_saves u3.2)) H := hP
      have hD : va_D A (mdW cI am (fx4_saves u3.2)) := hD
      generalize eM5 : fx4_saves u3.2 = M5 at hR hF hP hD
      replace hR := bnd_e hR
      replace hF := bnd_p hF
      refine lv_aload_n hx hb dX4_slip_89 rfl (lv_at hl 2 rfl) ?_
      refine va_get (D := D) (ci := 4) (v := .ref (am 1)) (C := RX4) (T := TX4) (N := 8) hx hb hts hinX4 hown hK hP 0 rfl rfl 0 (by decide) q1 (fun _ h9 => h9) rfl dX4_slip_90 ?_
      refine lv_iload_n hx hb dX4_slip_93 rfl (lv_at hl 1 rfl) ?_
      refine lv_iconst (v := 1) hx hb dX4_slip_94 (by decide) ?_
      refine kcsI (As := [.int v1, .int 1]) (rest := [.ref (am 1)]) E.1 (cx4_thing E v1 1) hX (va_cwS 2 hts gX4_slip_X4_thing rfl rfl rfl hdX4_thing.2 ⟨Nat.le_of_ble_eq_true rfl, Nat.le_of_ble_eq_true rfl⟩) hKs hP hD hS hA _ _ (kw_nil _) (kw_nil _).symm rfl rfl hl.1 (Nat.le_of_ble_eq_true rfl) dX4_slip_95 ⟨Nat.zero_le _, Nat.zero_le _⟩ (fun H locs hP hD hS => ?_)
      refine lv_dup2_11 hx hb dX4_slip_98 rfl rfl ?_
      obtain ⟨hi6, hF⟩ := hF
      refine va_iald hx hb hK hP 1 0 rfl rfl hi6 dX4_slip_99 ?_
      refine lv_iload_n hx hb dX4_slip_100 rfl (lv_at hl 4 rfl) ?_
      refine lv_iadd hx hb dX4_slip_101 ?_
      obtain ⟨hi7, hF⟩ := hF
      refine va_iast hx hb hK hP hD hS 1 0 rfl rfl hi7 dX4_slip_102 (fun H locs hP hD hS => ?_)
      have hP : va_P D vwCl (mdW cI am (va_up M5.1 0 (upd (M5.1 0) (fx4_thing v1 1).toNatClampNeg (((M5.1 0) (fx4_thing v1 1).toNatClampNeg) + x2)), M5.2)) H := hP
      have hD : va_D A (mdW cI am (va_up M5.1 0 (upd (M5.1 0) (fx4_thing v1 1).toNatClampNeg (((M5.1 0) (fx4_thing v1 1).toNatClampNeg) + x2)), M5.2)) := hD
      generalize eg8 : upd (M5.1 0) (fx4_thing v1 1).toNatClampNeg (((M5.1 0) (fx4_thing v1 1).toNatClampNeg) + x2) = g8 at hR hP hD hF
      replace hR := bnd_e hR
      replace hF := bnd_p hF
      refine lv_aload_n hx hb dX4_slip_103 rfl (lv_at hl 2 rfl) ?_
      refine va_get (D := D) (ci := 4) (v := .ref (am 1)) (C := RX4) (T := TX4) (N := 8) hx hb hts hinX4 hown hK hP 0 rfl rfl 0 (by decide) q1 (fun _ h9 => h9) rfl dX4_slip_104 ?_
      refine lv_iload_n hx hb dX4_slip_107 rfl (lv_at hl 1 rfl) ?_
      refine lv_iconst (v := 1) hx hb dX4_slip_108 (by decide) ?_
      refine kcsI (As := [.int v1, .int 1]) (rest := [.ref (am 1)]) E.1 (cx4_thing E v1 1) hX (va_cwS 2 hts gX4_slip_X4_thing rfl rfl rfl hdX4_thing.2 ⟨Nat.le_of_ble_eq_true rfl, Nat.le_of_ble_eq_true rfl⟩) hKs hP hD hS hA _ _ (kw_nil _) (kw_nil _).symm rfl rfl hl.1 (Nat.le_of_ble_eq_true rfl) dX4_slip_109 ⟨Nat.zero_le _, Nat.zero_le _⟩ (fun H locs hP hD hS => ?_)
      have hi9 := hF
      refine va_iald hx hb hK hP 1 0 rfl rfl hi9 dX4_slip_112 ?_
      subst hR
      exact krI hx hb hr hlk hP hD hS dX4_slip_113 rfl rfl
    · rw [if_neg c4] at hR hF
      refine lv_iconst (v := 0) hx hb dX4_slip_83 (by decide) ?_
      subst hR
      exact krI hx hb hr hlk hP hD hS dX4_slip_84 rfl rfl
  · rw [if_neg c2] at hR hF
    refine lv_iload_n hx hb dX4_slip_11 rfl (lv_at hl 3 rfl) ?_
    refine lv_bipush (v := (-30)) hx hb dX4_slip_12 (by decide) ?_
    refine lv_bipush (v := 30) hx hb dX4_slip_14 (by decide) ?_
    refine kcsI (As := [.int x2, .int (-30), .int 30]) (rest := []) E.1 (cx4_within E x2 (-30) 30) hX (va_cwS 3 hts gX4_slip_X4_within rfl rfl rfl hdX4_within.2 ⟨Nat.le_of_ble_eq_true rfl, Nat.le_of_ble_eq_true rfl⟩) hKs hP hD hS hA _ _ (kw_nil _) (kw_nil _).symm rfl rfl hl.1 (Nat.le_of_ble_eq_true rfl) dX4_slip_16 ⟨Nat.zero_le _, Nat.zero_le _⟩ (fun H locs hP hD hS => ?_)
    refine lv_if_eq (tgt := 54) hx hb dX4_slip_19 (by decide) (fun c11 => ?_) (fun c11 => ?_)
    · rw [if_pos c11] at hR hF
      refine lv_iconst (v := 0) hx hb dX4_slip_54 (by decide) ?_
      refine lv_istore (lv' := [(4, .int 0), (3, .int v1), (0, .ref (am 0)), (1, .int x1), (2, .int x2)]) hx hb dX4_slip_55 hl (by decide) rfl (fun ls hl => ?_)
      refine lv_aload_n hx hb dX4_slip_57 rfl (lv_at hl 2 rfl) ?_
      refine lv_iload_n hx hb dX4_slip_58 rfl (lv_at hl 1 rfl) ?_
      refine lv_iconst (v := (-1)) hx hb dX4_slip_59 (by decide) ?_
      refine lv_icmp_ne (tgt := 67) hx hb dX4_slip_60 (by decide) (fun _ => ?_) (fun c => absurd c c2)
      refine lv_iload hx hb dX4_slip_67 (lv_at hl 0 rfl) ?_
      refine lv_if_eq (tgt := 76) hx hb dX4_slip_69 (by decide) (fun _ => ?_) (fun c => absurd (by decide) c)
      refine lv_iconst (v := 2) hx hb dX4_slip_76 (by decide) ?_
      refine kcI (ci := 4) (q0 := 0) (As := [.int 2]) (rest := []) E.1 (cx4_refused E am M 2) hX (cwV 1 hts gX4_slip_X4_refused rfl rfl rfl hdX4_refused ⟨Nat.le_of_ble_eq_true rfl, Nat.le_of_ble_eq_true rfl⟩) hKs hK hP hD hS hA _ _ (kw_self _) (kw_self _).symm rfl rfl rfl rfl hl.1 (Nat.le_of_ble_eq_true rfl) dX4_slip_77 ⟨Nat.zero_le _, Nat.zero_le _⟩ (fun H locs hP hD hS => ?_)
      have hP : va_P D vwCl (mdW cI am ((fx4_refused M 2).2)) H := hP
      have hD : va_D A (mdW cI am ((fx4_refused M 2).2)) := hD
      generalize eu12 : fx4_refused M 2 = u12 at hR hF hP hD ⊢
      replace hR := bnd_e hR
      replace hF := bnd_p hF
      refine lv_if_eq (tgt := 85) hx hb dX4_slip_80 (by decide) (fun c13 => ?_) (fun c13 => ?_)
      · rw [if_pos c13] at hR hF
        refine lv_aload_n hx hb dX4_slip_85 rfl (lv_at hl 2 rfl) ?_
        obtain ⟨hs19, hF⟩ := hF
        refine kcV (ci := 4) (q0 := 0) (As := []) (rest := []) E.1 (cx4_saves E am u12.2 hs19) hX (cwV 0 hts gX4_slip_X4_saves rfl rfl rfl hdX4_saves ⟨Nat.le_of_ble_eq_true rfl, Nat.le_of_ble_eq_true rfl⟩) hKs hK hP hD hS hA _ _ (kw_self _) (kw_self _).symm rfl rfl rfl rfl hl.1 (Nat.le_of_ble_eq_true rfl) dX4_slip_86 ⟨Nat.zero_le _, Nat.zero_le _⟩ (fun H locs hP hD hS => ?_)
        have hP : va_P D vwCl (mdW cI am (fx4_saves u12.2)) H := hP
        have hD : va_D A (mdW cI am (fx4_saves u12.2)) := hD
        generalize eM14 : fx4_saves u12.2 = M14 at hR hF hP hD
        replace hR := bnd_e hR
        replace hF := bnd_p hF
        refine lv_aload_n hx hb dX4_slip_89 rfl (lv_at hl 2 rfl) ?_
        refine va_get (D := D) (ci := 4) (v := .ref (am 1)) (C := RX4) (T := TX4) (N := 8) hx hb hts hinX4 hown hK hP 0 rfl rfl 0 (by decide) q1 (fun _ h9 => h9) rfl dX4_slip_90 ?_
        refine lv_iload_n hx hb dX4_slip_93 rfl (lv_at hl 1 rfl) ?_
        refine lv_iconst (v := 1) hx hb dX4_slip_94 (by decide) ?_
        refine kcsI (As := [.int v1, .int 1]) (rest := [.ref (am 1)]) E.1 (cx4_thing E v1 1) hX (va_cwS 2 hts gX4_slip_X4_thing rfl rfl rfl hdX4_thing.2 ⟨Nat.le_of_ble_eq_true rfl, Nat.le_of_ble_eq_true rfl⟩) hKs hP hD hS hA _ _ (kw_nil _) (kw_nil _).symm rfl rfl hl.1 (Nat.le_of_ble_eq_true rfl) dX4_slip_95 ⟨Nat.zero_le _, Nat.zero_le _⟩ (fun H locs hP hD hS => ?_)
        refine lv_dup2_11 hx hb dX4_slip_98 rfl rfl ?_
        obtain ⟨hi15, hF⟩ := hF
        refine va_iald hx hb hK hP 1 0 rfl rfl hi15 dX4_slip_99 ?_
        refine lv_iload_n hx hb dX4_slip_100 rfl (lv_at hl 4 rfl) ?_
        refine lv_iadd hx hb dX4_slip_101 ?_
        obtain ⟨hi16, hF⟩ := hF
        refine va_iast hx hb hK hP hD hS 1 0 rfl rfl hi16 dX4_slip_102 (fun H locs hP hD hS => ?_)
        have hP : va_P D vwCl (mdW cI am (va_up M14.1 0 (upd (M14.1 0) (fx4_thing v1 1).toNatClampNeg (((M14.1 0) (fx4_thing v1 1).toNatClampNeg) + x2)), M14.2)) H := hP
        have hD : va_D A (mdW cI am (va_up M14.1 0 (upd (M14.1 0) (fx4_thing v1 1).toNatClampNeg (((M14.1 0) (fx4_thing v1 1).toNatClampNeg) + x2)), M14.2)) := hD
        generalize eg17 : upd (M14.1 0) (fx4_thing v1 1).toNatClampNeg (((M14.1 0) (fx4_thing v1 1).toNatClampNeg) + x2) = g17 at hR hP hD hF
        replace hR := bnd_e hR
        replace hF := bnd_p hF
        refine lv_aload_n hx hb dX4_slip_103 rfl (lv_at hl 2 rfl) ?_
        refine va_get (D := D) (ci := 4) (v := .ref (am 1)) (C := RX4) (T := TX4) (N := 8) hx hb hts hinX4 hown hK hP 0 rfl rfl 0 (by decide) q1 (fun _ h9 => h9) rfl dX4_slip_104 ?_
        refine lv_iload_n hx hb dX4_slip_107 rfl (lv_at hl 1 rfl) ?_
        refine lv_iconst (v := 1) hx hb dX4_slip_108 (by decide) ?_
        refine kcsI (As := [.int v1, .int 1]) (rest := [.ref (am 1)]) E.1 (cx4_thing E v1 1) hX (va_cwS 2 hts gX4_slip_X4_thing rfl rfl rfl hdX4_thing.2 ⟨Nat.le_of_ble_eq_true rfl, Nat.le_of_ble_eq_true rfl⟩) hKs hP hD hS hA _ _ (kw_nil _) (kw_nil _).symm rfl rfl hl.1 (Nat.le_of_ble_eq_true rfl) dX4_slip_109 ⟨Nat.zero_le _, Nat.zero_le _⟩ (fun H locs hP hD hS => ?_)
        have hi18 := hF
        refine va_iald hx hb hK hP 1 0 rfl rfl hi18 dX4_slip_112 ?_
        subst hR
        exact krI hx hb hr hlk hP hD hS dX4_slip_113 rfl rfl
      · rw [if_neg c13] at hR hF
        refine lv_iconst (v := 0) hx hb dX4_slip_83 (by decide) ?_
        subst hR
        exact krI hx hb hr hlk hP hD hS dX4_slip_84 rfl rfl
    · rw [if_neg c11] at hR hF
      refine lv_aload_n hx hb dX4_slip_22 rfl (lv_at hl 1 rfl) ?_
      refine va_get (D := D) (ci := 4) (v := .ref (am 1)) (C := RX4) (T := TX4) (N := 8) hx hb hts hinX4 hown hK hP 0 rfl rfl 0 (by decide) q1 (fun _ h9 => h9) rfl dX4_slip_23 ?_
      refine lv_iload_n hx hb dX4_slip_26 rfl (lv_at hl 0 rfl) ?_
      refine lv_iconst (v := 1) hx hb dX4_slip_27 (by decide) ?_
      refine kcsI (As := [.int v1, .int 1]) (rest := [.ref (am 1)]) E.1 (cx4_thing E v1 1) hX (va_cwS 2 hts gX4_slip_X4_thing rfl rfl rfl hdX4_thing.2 ⟨Nat.le_of_ble_eq_true rfl, Nat.le_of_ble_eq_true rfl⟩) hKs hP hD hS hA _ _ (kw_nil _) (kw_nil _).symm rfl rfl hl.1 (Nat.le_of_ble_eq_true rfl) dX4_slip_28 ⟨Nat.zero_le _, Nat.zero_le _⟩ (fun H locs hP hD hS => ?_)
      obtain ⟨hi20, hF⟩ := hF
      refine va_iald hx hb hK hP 1 0 rfl rfl hi20 dX4_slip_31 ?_
      refine lv_iload_n hx hb dX4_slip_32 rfl (lv_at hl 3 rfl) ?_
      refine lv_iadd hx hb dX4_slip_33 ?_
      refine lv_iconst (v := 0) hx hb dX4_slip_34 (by decide) ?_
      refine lv_aload_n hx hb dX4_slip_35 rfl (lv_at hl 1 rfl) ?_
      refine va_get (D := D) (ci := 4) (v := .ref (am 1)) (C := RX4) (T := TX4) (N := 8) hx hb hts hinX4 hown hK hP 0 rfl rfl 0 (by decide) q1 (fun _ h9 => h9) rfl dX4_slip_36 ?_
      refine lv_bipush (v := 11) hx hb dX4_slip_39 (by decide) ?_
      refine va_iald hx hb hK hP 1 0 rfl rfl (kin_lit (j := 11) (n := 1203) (by decide) (by decide)) dX4_slip_41 ?_
      refine kw_top (v := .int ((M.1 0) 11)) rfl ?_
      refine lv_iconst (v := 1) hx hb dX4_slip_42 (by decide) ?_
      refine lv_isub hx hb dX4_slip_43 ?_
      refine kcsI (As := [.int (((M.1 0) (fx4_thing v1 1).toNatClampNeg) + x2), .int 0, .int (((M.1 0) 11) - 1)]) (rest := []) E.1 (cx4_within E (((M.1 0) (fx4_thing v1 1).toNatClampNeg) + x2) 0 (((M.1 0) 11) - 1)) hX (va_cwS 3 hts gX4_slip_X4_within rfl rfl rfl hdX4_within.2 ⟨Nat.le_of_ble_eq_true rfl, Nat.le_of_ble_eq_true rfl⟩) hKs hP hD hS hA _ _ (kw_nil _) (kw_nil _).symm rfl rfl hl.1 (Nat.le_of_ble_eq_true rfl) dX4_slip_44 ⟨Nat.zero_le _, Nat.zero_le _⟩ (fun H locs hP hD hS => ?_)
      refine lv_if_eq (tgt := 54) hx hb dX4_slip_47 (by decide) (fun c21 => ?_) (fun c21 => ?_)
      · rw [if_pos c21] at hR hF
        refine lv_iconst (v := 0) hx hb dX4_slip_54 (by decide) ?_
        refine lv_istore (lv' := [(4, .int 0), (3, .int v1), (0, .ref (am 0)), (1, .int x1), (2, .int x2)]) hx hb dX4_slip_55 hl (by decide) rfl (fun ls hl => ?_)
        refine lv_aload_n hx hb dX4_slip_57 rfl (lv_at hl 2 rfl) ?_
        refine lv_iload_n hx hb dX4_slip_58 rfl (lv_at hl 1 rfl) ?_
        refine lv_iconst (v := (-1)) hx hb dX4_slip_59 (by decide) ?_
        refine lv_icmp_ne (tgt := 67) hx hb dX4_slip_60 (by decide) (fun _ => ?_) (fun c => absurd c c2)
        refine lv_iload hx hb dX4_slip_67 (lv_at hl 0 rfl) ?_
        refine lv_if_eq (tgt := 76) hx hb dX4_slip_69 (by decide) (fun _ => ?_) (fun c => absurd (by decide) c)
        refine lv_iconst (v := 2) hx hb dX4_slip_76 (by decide) ?_
        refine kcI (ci := 4) (q0 := 0) (As := [.int 2]) (rest := []) E.1 (cx4_refused E am M 2) hX (cwV 1 hts gX4_slip_X4_refused rfl rfl rfl hdX4_refused ⟨Nat.le_of_ble_eq_true rfl, Nat.le_of_ble_eq_true rfl⟩) hKs hK hP hD hS hA _ _ (kw_self _) (kw_self _).symm rfl rfl rfl rfl hl.1 (Nat.le_of_ble_eq_true rfl) dX4_slip_77 ⟨Nat.zero_le _, Nat.zero_le _⟩ (fun H locs hP hD hS => ?_)
        have hP : va_P D vwCl (mdW cI am ((fx4_refused M 2).2)) H := hP
        have hD : va_D A (mdW cI am ((fx4_refused M 2).2)) := hD
        generalize eu22 : fx4_refused M 2 = u22 at hR hF hP hD ⊢
        replace hR := bnd_e hR
        replace hF := bnd_p hF
        refine lv_if_eq (tgt := 85) hx hb dX4_slip_80 (by decide) (fun c23 => ?_) (fun c23 => ?_)
        · rw [if_pos c23] at hR hF
          refine lv_aload_n hx hb dX4_slip_85 rfl (lv_at hl 2 rfl) ?_
          obtain ⟨hs29, hF⟩ := hF
          refine kcV (ci := 4) (q0 := 0) (As := []) (rest := []) E.1 (cx4_saves E am u22.2 hs29) hX (cwV 0 hts gX4_slip_X4_saves rfl rfl rfl hdX4_saves ⟨Nat.le_of_ble_eq_true rfl, Nat.le_of_ble_eq_true rfl⟩) hKs hK hP hD hS hA _ _ (kw_self _) (kw_self _).symm rfl rfl rfl rfl hl.1 (Nat.le_of_ble_eq_true rfl) dX4_slip_86 ⟨Nat.zero_le _, Nat.zero_le _⟩ (fun H locs hP hD hS => ?_)
          have hP : va_P D vwCl (mdW cI am (fx4_saves u22.2)) H := hP
          have hD : va_D A (mdW cI am (fx4_saves u22.2)) := hD
          generalize eM24 : fx4_saves u22.2 = M24 at hR hF hP hD
          replace hR := bnd_e hR
          replace hF := bnd_p hF
          refine lv_aload_n hx hb dX4_slip_89 rfl (lv_at hl 2 rfl) ?_
          refine va_get (D := D) (ci := 4) (v := .ref (am 1)) (C := RX4) (T := TX4) (N := 8) hx hb hts hinX4 hown hK hP 0 rfl rfl 0 (by decide) q1 (fun _ h9 => h9) rfl dX4_slip_90 ?_
          refine lv_iload_n hx hb dX4_slip_93 rfl (lv_at hl 1 rfl) ?_
          refine lv_iconst (v := 1) hx hb dX4_slip_94 (by decide) ?_
          refine kcsI (As := [.int v1, .int 1]) (rest := [.ref (am 1)]) E.1 (cx4_thing E v1 1) hX (va_cwS 2 hts gX4_slip_X4_thing rfl rfl rfl hdX4_thing.2 ⟨Nat.le_of_ble_eq_true rfl, Nat.le_of_ble_eq_true rfl⟩) hKs hP hD hS hA _ _ (kw_nil _) (kw_nil _).symm rfl rfl hl.1 (Nat.le_of_ble_eq_true rfl) dX4_slip_95 ⟨Nat.zero_le _, Nat.zero_le _⟩ (fun H locs hP hD hS => ?_)
          refine lv_dup2_11 hx hb dX4_slip_98 rfl rfl ?_
          obtain ⟨hi25, hF⟩ := hF
          refine va_iald hx hb hK hP 1 0 rfl rfl hi25 dX4_slip_99 ?_
          refine lv_iload_n hx hb dX4_slip_100 rfl (lv_at hl 4 rfl) ?_
          refine lv_iadd hx hb dX4_slip_101 ?_
          obtain ⟨hi26, hF⟩ := hF
          refine va_iast hx hb hK hP hD hS 1 0 rfl rfl hi26 dX4_slip_102 (fun H locs hP hD hS => ?_)
          have hP : va_P D vwCl (mdW cI am (va_up M24.1 0 (upd (M24.1 0) (fx4_thing v1 1).toNatClampNeg (((M24.1 0) (fx4_thing v1 1).toNatClampNeg) + x2)), M24.2)) H := hP
          have hD : va_D A (mdW cI am (va_up M24.1 0 (upd (M24.1 0) (fx4_thing v1 1).toNatClampNeg (((M24.1 0) (fx4_thing v1 1).toNatClampNeg) + x2)), M24.2)) := hD
          generalize eg27 : upd (M24.1 0) (fx4_thing v1 1).toNatClampNeg (((M24.1 0) (fx4_thing v1 1).toNatClampNeg) + x2) = g27 at hR hP hD hF
          replace hR := bnd_e hR
          replace hF := bnd_p hF
          refine lv_aload_n hx hb dX4_slip_103 rfl (lv_at hl 2 rfl) ?_
          refine va_get (D := D) (ci := 4) (v := .ref (am 1)) (C := RX4) (T := TX4) (N := 8) hx hb hts hinX4 hown hK hP 0 rfl rfl 0 (by decide) q1 (fun _ h9 => h9) rfl dX4_slip_104 ?_
          refine lv_iload_n hx hb dX4_slip_107 rfl (lv_at hl 1 rfl) ?_
          refine lv_iconst (v := 1) hx hb dX4_slip_108 (by decide) ?_
          refine kcsI (As := [.int v1, .int 1]) (rest := [.ref (am 1)]) E.1 (cx4_thing E v1 1) hX (va_cwS 2 hts gX4_slip_X4_thing rfl rfl rfl hdX4_thing.2 ⟨Nat.le_of_ble_eq_true rfl, Nat.le_of_ble_eq_true rfl⟩) hKs hP hD hS hA _ _ (kw_nil _) (kw_nil _).symm rfl rfl hl.1 (Nat.le_of_ble_eq_true rfl) dX4_slip_109 ⟨Nat.zero_le _, Nat.zero_le _⟩ (fun H locs hP hD hS => ?_)
          have hi28 := hF
          refine va_iald hx hb hK hP 1 0 rfl rfl hi28 dX4_slip_112 ?_
          subst hR
          exact krI hx hb hr hlk hP hD hS dX4_slip_113 rfl rfl
        · rw [if_neg c23] at hR hF
          refine lv_iconst (v := 0) hx hb dX4_slip_83 (by decide) ?_
          subst hR
          exact krI hx hb hr hlk hP hD hS dX4_slip_84 rfl rfl
      · rw [if_neg c21] at hR hF
        refine lv_iconst (v := 1) hx hb dX4_slip_50 (by decide) ?_
        refine lv_goto (tgt := 55) hx hb dX4_slip_51 (by decide) ?_
        refine lv_istore (lv' := [(4, .int 1), (3, .int v1), (0, .ref (am 0)), (1, .int x1), (2, .int x2)]) hx hb dX4_slip_55 hl (by decide) rfl (fun ls hl => ?_)
        refine lv_aload_n hx hb dX4_slip_57 rfl (lv_at hl 2 rfl) ?_
        refine lv_iload_n hx hb dX4_slip_58 rfl (lv_at hl 1 rfl) ?_
        refine lv_iconst (v := (-1)) hx hb dX4_slip_59 (by decide) ?_
        refine lv_icmp_ne (tgt := 67) hx hb dX4_slip_60 (by decide) (fun _ => ?_) (fun c => absurd c c2)
        refine lv_iload hx hb dX4_slip_67 (lv_at hl 0 rfl) ?_
        refine lv_if_eq (tgt := 76) hx hb dX4_slip_69 (by decide) (fun c => absurd c (by decide)) (fun _ => ?_)
        refine lv_iconst (v := 0) hx hb dX4_slip_72 (by decide) ?_
        refine lv_goto (tgt := 77) hx hb dX4_slip_73 (by decide) ?_
        refine kcI (ci := 4) (q0 := 0) (As := [.int 0]) (rest := []) E.1 (cx4_refused E am M 0) hX (cwV 1 hts gX4_slip_X4_refused rfl rfl rfl hdX4_refused ⟨Nat.le_of_ble_eq_true rfl, Nat.le_of_ble_eq_true rfl⟩) hKs hK hP hD hS hA _ _ (kw_self _) (kw_self _).symm rfl rfl rfl rfl hl.1 (Nat.le_of_ble_eq_true rfl) dX4_slip_77 ⟨Nat.zero_le _, Nat.zero_le _⟩ (fun H locs hP hD hS => ?_)
        have hP : va_P D vwCl (mdW cI am ((fx4_refused M 0).2)) H := hP
        have hD : va_D A (mdW cI am ((fx4_refused M 0).2)) := hD
        generalize eu30 : fx4_refused M 0 = u30 at hR hF hP hD ⊢
        replace hR := bnd_e hR
        replace hF := bnd_p hF
        refine lv_if_eq (tgt := 85) hx hb dX4_slip_80 (by decide) (fun c31 => ?_) (fun c31 => ?_)
        · rw [if_pos c31] at hR hF
          refine lv_aload_n hx hb dX4_slip_85 rfl (lv_at hl 2 rfl) ?_
          obtain ⟨hs37, hF⟩ := hF
          refine kcV (ci := 4) (q0 := 0) (As := []) (rest := []) E.1 (cx4_saves E am u30.2 hs37) hX (cwV 0 hts gX4_slip_X4_saves rfl rfl rfl hdX4_saves ⟨Nat.le_of_ble_eq_true rfl, Nat.le_of_ble_eq_true rfl⟩) hKs hK hP hD hS hA _ _ (kw_self _) (kw_self _).symm rfl rfl rfl rfl hl.1 (Nat.le_of_ble_eq_true rfl) dX4_slip_86 ⟨Nat.zero_le _, Nat.zero_le _⟩ (fun H locs hP hD hS => ?_)
          have hP : va_P D vwCl (mdW cI am (fx4_saves u30.2)) H := hP
          have hD : va_D A (mdW cI am (fx4_saves u30.2)) := hD
          generalize eM32 : fx4_saves u30.2 = M32 at hR hF hP hD
          replace hR := bnd_e hR
          replace hF := bnd_p hF
          refine lv_aload_n hx hb dX4_slip_89 rfl (lv_at hl 2 rfl) ?_
          refine va_get (D := D) (ci := 4) (v := .ref (am 1)) (C := RX4) (T := TX4) (N := 8) hx hb hts hinX4 hown hK hP 0 rfl rfl 0 (by decide) q1 (fun _ h9 => h9) rfl dX4_slip_90 ?_
          refine lv_iload_n hx hb dX4_slip_93 rfl (lv_at hl 1 rfl) ?_
          refine lv_iconst (v := 1) hx hb dX4_slip_94 (by decide) ?_
          refine kcsI (As := [.int v1, .int 1]) (rest := [.ref (am 1)]) E.1 (cx4_thing E v1 1) hX (va_cwS 2 hts gX4_slip_X4_thing rfl rfl rfl hdX4_thing.2 ⟨Nat.le_of_ble_eq_true rfl, Nat.le_of_ble_eq_true rfl⟩) hKs hP hD hS hA _ _ (kw_nil _) (kw_nil _).symm rfl rfl hl.1 (Nat.le_of_ble_eq_true rfl) dX4_slip_95 ⟨Nat.zero_le _, Nat.zero_le _⟩ (fun H locs hP hD hS => ?_)
          refine lv_dup2_11 hx hb dX4_slip_98 rfl rfl ?_
          obtain ⟨hi33, hF⟩ := hF
          refine va_iald hx hb hK hP 1 0 rfl rfl hi33 dX4_slip_99 ?_
          refine lv_iload_n hx hb dX4_slip_100 rfl (lv_at hl 4 rfl) ?_
          refine lv_iadd hx hb dX4_slip_101 ?_
          obtain ⟨hi34, hF⟩ := hF
          refine va_iast hx hb hK hP hD hS 1 0 rfl rfl hi34 dX4_slip_102 (fun H locs hP hD hS => ?_)
          have hP : va_P D vwCl (mdW cI am (va_up M32.1 0 (upd (M32.1 0) (fx4_thing v1 1).toNatClampNeg (((M32.1 0) (fx4_thing v1 1).toNatClampNeg) + x2)), M32.2)) H := hP
          have hD : va_D A (mdW cI am (va_up M32.1 0 (upd (M32.1 0) (fx4_thing v1 1).toNatClampNeg (((M32.1 0) (fx4_thing v1 1).toNatClampNeg) + x2)), M32.2)) := hD
          generalize eg35 : upd (M32.1 0) (fx4_thing v1 1).toNatClampNeg (((M32.1 0) (fx4_thing v1 1).toNatClampNeg) + x2) = g35 at hR hP hD hF
          replace hR := bnd_e hR
          replace hF := bnd_p hF
          refine lv_aload_n hx hb dX4_slip_103 rfl (lv_at hl 2 rfl) ?_
          refine va_get (D := D) (ci := 4) (v := .ref (am 1)) (C := RX4) (T := TX4) (N := 8) hx hb hts hinX4 hown hK hP 0 rfl rfl 0 (by decide) q1 (fun _ h9 => h9) rfl dX4_slip_104 ?_
          refine lv_iload_n hx hb dX4_slip_107 rfl (lv_at hl 1 rfl) ?_
          refine lv_iconst (v := 1) hx hb dX4_slip_108 (by decide) ?_
          refine kcsI (As := [.int v1, .int 1]) (rest := [.ref (am 1)]) E.1 (cx4_thing E v1 1) hX (va_cwS 2 hts gX4_slip_X4_thing rfl rfl rfl hdX4_thing.2 ⟨Nat.le_of_ble_eq_true rfl, Nat.le_of_ble_eq_true rfl⟩) hKs hP hD hS hA _ _ (kw_nil _) (kw_nil _).symm rfl rfl hl.1 (Nat.le_of_ble_eq_true rfl) dX4_slip_109 ⟨Nat.zero_le _, Nat.zero_le _⟩ (fun H locs hP hD hS => ?_)
          have hi36 := hF
          refine va_iald hx hb hK hP 1 0 rfl rfl hi36 dX4_slip_112 ?_
          subst hR
          exact krI hx hb hr hlk hP hD hS dX4_slip_113 rfl rfl
        · rw [if_neg c31] at hR hF
          refine lv_iconst (v := 0) hx hb dX4_slip_83 (by decide) ?_
          subst hR
          exact krI hx hb hr hlk hP hD hS dX4_slip_84 rfl rfl

theorem hdX4_take : yX4_take.cls = RX4 ∧ yX4_take.cls ≠ "java/lang/invoke/MethodHandle" ∧ yX4_take.cls ≠ "java/lang/invoke/VarHandle" ∧ (parseMethodDescriptor yX4_take.desc).map (fun d => d.parameters.length) = some 1 := by decide +kernel
def fx4_take (M : Md) (x1 : Int32) : Int32 × (Md) := (bnd (fx4_itemOf (M.1 0) x1) (fun v1 => (if v1 = (-1) then (bnd (fx4_refused M 1) (fun u3 => (if u3.1 = 0 then (bnd (fx4_saves u3.2) (fun M5 => (bnd (fx4_drops (M5.1 0) 36 37 4 v1) (fun M7 => (bnd (fx4_counts M7 7) (fun M8 => ((M5.1 0) (fx4_thing v1 1).toNatClampNeg, (va_up (va_up M5.1 0 M7) 0 M8, M5.2)))))))) else (0, u3.2)))) else (bnd (fx4_refused M 0) (fun u12 => (if u12.1 = 0 then (bnd (fx4_saves u12.2) (fun M14 => (bnd (fx4_drops (M14.1 0) 36 37 4 v1) (fun M16 => (bnd (fx4_counts M16 7) (fun M17 => ((M14.1 0) (fx4_thing v1 1).toNatClampNeg, (va_up (va_up M14.1 0 M16) 0 M17, M14.2)))))))) else (0, u12.2)))))))
def sx4_take (M : Md) (x1 : Int32) : Prop := (sx4_itemOf (M.1 0) x1 ∧ (bnd (fx4_itemOf (M.1 0) x1) (fun v1 => (if v1 = (-1) then (bnd (fx4_refused M 1) (fun u3 => (if u3.1 = 0 then (sx4_saves u3.2 ∧ (bnd (fx4_saves u3.2) (fun M5 => (vp_in (fx4_thing v1 1) 1203 ∧ (sx4_drops (M5.1 0) 36 37 4 v1 ∧ (bnd (fx4_drops (M5.1 0) 36 37 4 v1) (fun M7 => sx4_counts M7 7))))))) else True))) else (bnd (fx4_refused M 0) (fun u12 => (if u12.1 = 0 then (sx4_saves u12.2 ∧ (bnd (fx4_saves u12.2) (fun M14 => (vp_in (fx4_thing v1 1) 1203 ∧ (sx4_drops (M14.1 0) 36 37 4 v1 ∧ (bnd (fx4_drops (M14.1 0) 36 37 4 v1) (fun M16 => sx4_counts M16 7))))))) else True)))))))
set_option maxHeartbeats 4000000 in
set_option maxRecDepth 100000 in
theorem cx4_take {l : Launch} {D : va_G} {cI cB cS cJ : ClassId} {K : State → Prop} (E : kE D cI cB cS cJ K) (am : Nat → Nat) (M : Md) (x1 : Int32) (hF : sx4_take M x1) : kI l D K yX4_take wsX4_take 2 44 [.ref (am 0), .int x1] (mdW cI am M) (fx4_take M x1).1 (mdW cI am ((fx4_take M x1).2)) := by
  refine kI_of (own := RX4) (cc := cX4_take) (maxL := 4) (tys := kty cI cB cS cJ) (fun U h => (E.2 U h).1) (by decide) rfl rfl (Nat.le_of_ble_eq_true rfl) ?_
  intro p e s m below meth c A ls hx hb hr hml hts hown hlk hKs hK hP hD hA hS hl
  have hl : lv_has ls 4 [(0, .ref (am 0)), (1, .int x1)] := hl
  have hX : CallFix p m c cX4_take 4 s _ wsX4_take RX4 := ⟨hx, hb, hml, hown, hts⟩
  have hinX4 : ∀ w ∈ wsX40, w ∈ wsX4_take := fun w h => List.mem_cons_of_mem _ (List.mem_append_right _ h)
  have q1 := hts (.fieldLink RX4 7 "LabelStationModel" "now" "[I") (List.mem_of_getElem? (i := 1) rfl)
  generalize hR : fx4_take M x1 = R
  rw [fx4_take] at hR
  rw [sx4_take] at hF
  refine lv_aload_n hx hb dX4_take_0 rfl (lv_at hl 0 rfl) ?_
  refine lv_iload_n hx hb dX4_take_1 rfl (lv_at hl 1 rfl) ?_
  obtain ⟨hs21, hF⟩ := hF
  refine kcI (ci := 4) (q0 := 0) (As := [.int x1]) (rest := []) E.1 (cx4_itemOf E am (M.1 4 0) (M.1 4 1) (M.1 4 2) M.2 (M.1 0) x1 hs21) hX (cwV 1 hts gX4_take_X4_itemOf rfl rfl rfl hdX4_itemOf ⟨Nat.le_of_ble_eq_true rfl, Nat.le_of_ble_eq_true rfl⟩) hKs hK hP hD hS hA _ _ (md_mn cI am M) (md_mn cI am M).symm rfl rfl rfl rfl hl.1 (Nat.le_of_ble_eq_true rfl) dX4_take_2 ⟨Nat.zero_le _, Nat.zero_le _⟩ (fun H locs hP hD hS => ?_)
  generalize ev1 : fx4_itemOf (M.1 0) x1 = v1 at hR hF ⊢
  replace hR := bnd_e hR
  replace hF := bnd_p hF
  refine lv_istore_n (lv' := [(2, .int v1), (0, .ref (am 0)), (1, .int x1)]) hx hb dX4_take_5 rfl hl (by decide) rfl (fun ls hl => ?_)
  refine lv_aload_n hx hb dX4_take_6 rfl (lv_at hl 1 rfl) ?_
  refine lv_iload_n hx hb dX4_take_7 rfl (lv_at hl 0 rfl) ?_
  refine lv_iconst (v := (-1)) hx hb dX4_take_8 (by decide) ?_
  refine lv_icmp_ne (tgt := 16) hx hb dX4_take_9 (by decide) (fun c2 => ?_) (fun c2 => ?_)
  · rw [if_neg c2] at hR hF
    refine lv_iconst (v := 0) hx hb dX4_take_16 (by decide) ?_
    refine kcI (ci := 4) (q0 := 0) (As := [.int 0]) (rest := []) E.1 (cx4_refused E am M 0) hX (cwV 1 hts gX4_take_X4_refused rfl rfl rfl hdX4_refused ⟨Nat.le_of_ble_eq_true rfl, Nat.le_of_ble_eq_true rfl⟩) hKs hK hP hD hS hA _ _ (kw_self _) (kw_self _).symm rfl rfl rfl rfl hl.1 (Nat.le_of_ble_eq_true rfl) dX4_take_17 ⟨Nat.zero_le _, Nat.zero_le _⟩ (fun H locs hP hD hS => ?_)
    have hP : va_P D vwCl (mdW cI am ((fx4_refused M 0).2)) H := hP
    have hD : va_D A (mdW cI am ((fx4_refused M 0).2)) := hD
    generalize eu12 : fx4_refused M 0 = u12 at hR hF hP hD ⊢
    replace hR := bnd_e hR
    replace hF := bnd_p hF
    refine lv_if_eq (tgt := 25) hx hb dX4_take_20 (by decide) (fun c13 => ?_) (fun c13 => ?_)
    · rw [if_pos c13] at hR hF
      refine lv_aload_n hx hb dX4_take_25 rfl (lv_at hl 1 rfl) ?_
      obtain ⟨hs20, hF⟩ := hF
      refine kcV (ci := 4) (q0 := 0) (As := []) (rest := []) E.1 (cx4_saves E am u12.2 hs20) hX (cwV 0 hts gX4_take_X4_saves rfl rfl rfl hdX4_saves ⟨Nat.le_of_ble_eq_true rfl, Nat.le_of_ble_eq_true rfl⟩) hKs hK hP hD hS hA _ _ (kw_self _) (kw_self _).symm rfl rfl rfl rfl hl.1 (Nat.le_of_ble_eq_true rfl) dX4_take_26 ⟨Nat.zero_le _, Nat.zero_le _⟩ (fun H locs hP hD hS => ?_)
      have hP : va_P D vwCl (mdW cI am (fx4_saves u12.2)) H := hP
      have hD : va_D A (mdW cI am (fx4_saves u12.2)) := hD
      generalize eM14 : fx4_saves u12.2 = M14 at hR hF hP hD
      replace hR := bnd_e hR
      replace hF := bnd_p hF
      refine lv_aload_n hx hb dX4_take_29 rfl (lv_at hl 1 rfl) ?_
      refine va_get (D := D) (ci := 4) (v := .ref (am 1)) (C := RX4) (T := TX4) (N := 8) hx hb hts hinX4 hown hK hP 0 rfl rfl 0 (by decide) q1 (fun _ h9 => h9) rfl dX4_take_30 ?_
      refine lv_iload_n hx hb dX4_take_33 rfl (lv_at hl 0 rfl) ?_
      refine lv_iconst (v := 1) hx hb dX4_take_34 (by decide) ?_
      refine kcsI (As := [.int v1, .int 1]) (rest := [.ref (am 1)]) E.1 (cx4_thing E v1 1) hX (va_cwS 2 hts gX4_take_X4_thing rfl rfl rfl hdX4_thing.2 ⟨Nat.le_of_ble_eq_true rfl, Nat.le_of_ble_eq_true rfl⟩) hKs hP hD hS hA _ _ (kw_nil _) (kw_nil _).symm rfl rfl hl.1 (Nat.le_of_ble_eq_true rfl) dX4_take_35 ⟨Nat.zero_le _, Nat.zero_le _⟩ (fun H locs hP hD hS => ?_)
      obtain ⟨hi15, hF⟩ := hF
      refine va_iald hx hb hK hP 1 0 rfl rfl hi15 dX4_take_38 ?_
      refine lv_istore_n (lv' := [(3, .int ((M14.1 0) (fx4_thing v1 1).toNatClampNeg)), (2, .int v1), (0, .ref (am 0)), (1, .int x1)]) hx hb dX4_take_39 rfl hl (by decide) rfl (fun ls hl => ?_)
      refine lv_aload_n hx hb dX4_take_40 rfl (lv_at hl 2 rfl) ?_
      refine lv_bipush (v := 36) hx hb dX4_take_41 (by decide) ?_
      refine lv_bipush (v := 37) hx hb dX4_take_43 (by decide) ?_
      refine lv_iconst (v := 4) hx hb dX4_take_45 (by decide) ?_
      refine lv_iload_n hx hb dX4_take_46 rfl (lv_at hl 1 rfl) ?_
      obtain ⟨hs19, hF⟩ := hF
      refine kcV (ci := 4) (q0 := 0) (As := [.int 36, .int 37, .int 4, .int v1]) (rest := []) E.1 (cx4_drops E am (M14.1 4 0) (M14.1 4 1) (M14.1 4 2) M14.2 (M14.1 0) 36 37 4 v1 hs19) hX (cwV 4 hts gX4_take_X4_drops rfl rfl rfl hdX4_drops ⟨Nat.le_of_ble_eq_true rfl, Nat.le_of_ble_eq_true rfl⟩) hKs hK hP hD hS hA _ _ (md_mn cI am M14) (md_mn' cI am M14 _) rfl rfl rfl rfl hl.1 (Nat.le_of_ble_eq_true rfl) dX4_take_47 ⟨Nat.zero_le _, Nat.zero_le _⟩ (fun H locs hP hD hS => ?_)
      have hP : va_P D vwCl (mdW cI am (va_up M14.1 0 (fx4_drops (M14.1 0) 36 37 4 v1), M14.2)) H := hP
      have hD : va_D A (mdW cI am (va_up M14.1 0 (fx4_drops (M14.1 0) 36 37 4 v1), M14.2)) := hD
      generalize eM16 : fx4_drops (M14.1 0) 36 37 4 v1 = M16 at hR hF hP hD
      replace hR := bnd_e hR
      replace hF := bnd_p hF
      refine lv_aload_n hx hb dX4_take_50 rfl (lv_at hl 2 rfl) ?_
      refine lv_bipush (v := 7) hx hb dX4_take_51 (by decide) ?_
      have hs18 := hF
      refine kcV (ci := 4) (q0 := 0) (As := [.int 7]) (rest := []) E.1 (cx4_counts E am (M14.1 4 0) (M14.1 4 1) (M14.1 4 2) M14.2 M16 7 hs18) hX (cwV 1 hts gX4_take_X4_counts rfl rfl rfl hdX4_counts ⟨Nat.le_of_ble_eq_true rfl, Nat.le_of_ble_eq_true rfl⟩) hKs hK hP hD hS hA _ _ (md_mn cI am (va_up M14.1 0 M16, M14.2)) (md_mn' cI am (va_up M14.1 0 M16, M14.2) _) rfl rfl rfl rfl hl.1 (Nat.le_of_ble_eq_true rfl) dX4_take_53 ⟨Nat.zero_le _, Nat.zero_le _⟩ (fun H locs hP hD hS => ?_)
      have hP : va_P D vwCl (mdW cI am (va_up (va_up M14.1 0 M16) 0 (fx4_counts M16 7), M14.2)) H := hP
      have hD : va_D A (mdW cI am (va_up (va_up M14.1 0 M16) 0 (fx4_counts M16 7), M14.2)) := hD
      generalize eM17 : fx4_counts M16 7 = M17 at hR hP hD
      replace hR := bnd_e hR
      refine lv_iload_n hx hb dX4_take_56 rfl (lv_at hl 0 rfl) ?_
      subst hR
      exact krI hx hb hr hlk hP hD hS dX4_take_57 rfl rfl
    · rw [if_neg c13] at hR hF
      refine lv_iconst (v := 0) hx hb dX4_take_23 (by decide) ?_
      subst hR
      exact krI hx hb hr hlk hP hD hS dX4_take_24 rfl rfl
  · rw [if_pos c2] at hR hF
    refine lv_iconst (v := 1) hx hb dX4_take_12 (by decide) ?_
    refine lv_goto (tgt := 17) hx hb dX4_take_13 (by decide) ?_
    refine kcI (ci := 4) (q0 := 0) (As := [.int 1]) (rest := []) E.1 (cx4_refused E am M 1) hX (cwV 1 hts gX4_take_X4_refused rfl rfl rfl hdX4_refused ⟨Nat.le_of_ble_eq_true rfl, Nat.le_of_ble_eq_true rfl⟩) hKs hK hP hD hS hA _ _ (kw_self _) (kw_self _).symm rfl rfl rfl rfl hl.1 (Nat.le_of_ble_eq_true rfl) dX4_take_17 ⟨Nat.zero_le _, Nat.zero_le _⟩ (fun H locs hP hD hS => ?_)
    have hP : va_P D vwCl (mdW cI am ((fx4_refused M 1).2)) H := hP
    have hD : va_D A (mdW cI am ((fx4_refused M 1).2)) := hD
    generalize eu3 : fx4_refused M 1 = u3 at hR hF hP hD ⊢
    replace hR := bnd_e hR
    replace hF := bnd_p hF
    refine lv_if_eq (tgt := 25) hx hb dX4_take_20 (by decide) (fun c4 => ?_) (fun c4 => ?_)
    · rw [if_pos c4] at hR hF
      refine lv_aload_n hx hb dX4_take_25 rfl (lv_at hl 1 rfl) ?_
      obtain ⟨hs11, hF⟩ := hF
      refine kcV (ci := 4) (q0 := 0) (As := []) (rest := []) E.1 (cx4_saves E am u3.2 hs11) hX (cwV 0 hts gX4_take_X4_saves rfl rfl rfl hdX4_saves ⟨Nat.le_of_ble_eq_true rfl, Nat.le_of_ble_eq_true rfl⟩) hKs hK hP hD hS hA _ _ (kw_self _) (kw_self _).symm rfl rfl rfl rfl hl.1 (Nat.le_of_ble_eq_true rfl) dX4_take_26 ⟨Nat.zero_le _, Nat.zero_le _⟩ (fun H locs hP hD hS => ?_)
      have hP : va_P D vwCl (mdW cI am (fx4_saves u3.2)) H := hP
      have hD : va_D A (mdW cI am (fx4_saves u3.2)) := hD
      generalize eM5 : fx4_saves u3.2 = M5 at hR hF hP hD
      replace hR := bnd_e hR
      replace hF := bnd_p hF
      refine lv_aload_n hx hb dX4_take_29 rfl (lv_at hl 1 rfl) ?_
      refine va_get (D := D) (ci := 4) (v := .ref (am 1)) (C := RX4) (T := TX4) (N := 8) hx hb hts hinX4 hown hK hP 0 rfl rfl 0 (by decide) q1 (fun _ h9 => h9) rfl dX4_take_30 ?_
      refine lv_iload_n hx hb dX4_take_33 rfl (lv_at hl 0 rfl) ?_
      refine lv_iconst (v := 1) hx hb dX4_take_34 (by decide) ?_
      refine kcsI (As := [.int v1, .int 1]) (rest := [.ref (am 1)]) E.1 (cx4_thing E v1 1) hX (va_cwS 2 hts gX4_take_X4_thing rfl rfl rfl hdX4_thing.2 ⟨Nat.le_of_ble_eq_true rfl, Nat.le_of_ble_eq_true rfl⟩) hKs hP hD hS hA _ _ (kw_nil _) (kw_nil _).symm rfl rfl hl.1 (Nat.le_of_ble_eq_true rfl) dX4_take_35 ⟨Nat.zero_le _, Nat.zero_le _⟩ (fun H locs hP hD hS => ?_)
      obtain ⟨hi6, hF⟩ := hF
      refine va_iald hx hb hK hP 1 0 rfl rfl hi6 dX4_take_38 ?_
      refine lv_istore_n (lv' := [(3, .int ((M5.1 0) (fx4_thing v1 1).toNatClampNeg)), (2, .int v1), (0, .ref (am 0)), (1, .int x1)]) hx hb dX4_take_39 rfl hl (by decide) rfl (fun ls hl => ?_)
      refine lv_aload_n hx hb dX4_take_40 rfl (lv_at hl 2 rfl) ?_
      refine lv_bipush (v := 36) hx hb dX4_take_41 (by decide) ?_
      refine lv_bipush (v := 37) hx hb dX4_take_43 (by decide) ?_
      refine lv_iconst (v := 4) hx hb dX4_take_45 (by decide) ?_
      refine lv_iload_n hx hb dX4_take_46 rfl (lv_at hl 1 rfl) ?_
      obtain ⟨hs10, hF⟩ := hF
      refine kcV (ci := 4) (q0 := 0) (As := [.int 36, .int 37, .int 4, .int v1]) (rest := []) E.1 (cx4_drops E am (M5.1 4 0) (M5.1 4 1) (M5.1 4 2) M5.2 (M5.1 0) 36 37 4 v1 hs10) hX (cwV 4 hts gX4_take_X4_drops rfl rfl rfl hdX4_drops ⟨Nat.le_of_ble_eq_true rfl, Nat.le_of_ble_eq_true rfl⟩) hKs hK hP hD hS hA _ _ (md_mn cI am M5) (md_mn' cI am M5 _) rfl rfl rfl rfl hl.1 (Nat.le_of_ble_eq_true rfl) dX4_take_47 ⟨Nat.zero_le _, Nat.zero_le _⟩ (fun H locs hP hD hS => ?_)
      have hP : va_P D vwCl (mdW cI am (va_up M5.1 0 (fx4_drops (M5.1 0) 36 37 4 v1), M5.2)) H := hP
      have hD : va_D A (mdW cI am (va_up M5.1 0 (fx4_drops (M5.1 0) 36 37 4 v1), M5.2)) := hD
      generalize eM7 : fx4_drops (M5.1 0) 36 37 4 v1 = M7 at hR hF hP hD
      replace hR := bnd_e hR
      replace hF := bnd_p hF
      refine lv_aload_n hx hb dX4_take_50 rfl (lv_at hl 2 rfl) ?_
      refine lv_bipush (v := 7) hx hb dX4_take_51 (by decide) ?_
      have hs9 := hF
      refine kcV (ci := 4) (q0 := 0) (As := [.int 7]) (rest := []) E.1 (cx4_counts E am (M5.1 4 0) (M5.1 4 1) (M5.1 4 2) M5.2 M7 7 hs9) hX (cwV 1 hts gX4_take_X4_counts rfl rfl rfl hdX4_counts ⟨Nat.le_of_ble_eq_true rfl, Nat.le_of_ble_eq_true rfl⟩) hKs hK hP hD hS hA _ _ (md_mn cI am (va_up M5.1 0 M7, M5.2)) (md_mn' cI am (va_up M5.1 0 M7, M5.2) _) rfl rfl rfl rfl hl.1 (Nat.le_of_ble_eq_true rfl) dX4_take_53 ⟨Nat.zero_le _, Nat.zero_le _⟩ (fun H locs hP hD hS => ?_)
      have hP : va_P D vwCl (mdW cI am (va_up (va_up M5.1 0 M7) 0 (fx4_counts M7 7), M5.2)) H := hP
      have hD : va_D A (mdW cI am (va_up (va_up M5.1 0 M7) 0 (fx4_counts M7 7), M5.2)) := hD
      generalize eM8 : fx4_counts M7 7 = M8 at hR hP hD
      replace hR := bnd_e hR
      refine lv_iload_n hx hb dX4_take_56 rfl (lv_at hl 0 rfl) ?_
      subst hR
      exact krI hx hb hr hlk hP hD hS dX4_take_57 rfl rfl
    · rw [if_neg c4] at hR hF
      refine lv_iconst (v := 0) hx hb dX4_take_23 (by decide) ?_
      subst hR
      exact krI hx hb hr hlk hP hD hS dX4_take_24 rfl rfl

theorem hdX4_run : yX4_run.cls = RX4 ∧ yX4_run.cls ≠ "java/lang/invoke/MethodHandle" ∧ yX4_run.cls ≠ "java/lang/invoke/VarHandle" ∧ (parseMethodDescriptor yX4_run.desc).map (fun d => d.parameters.length) = some 1 := by decide +kernel
def fx4_run (M : Md) (x1 : Int32) : Int32 × (Md) := (if (fx4_within x1 0 1000) = 0 then (bnd (fx4_refused M 1) (fun u2 => (if u2.1 = 0 then (bnd (fx4_saves u2.2) (fun M4 => (bnd (fx4_runs (M4.1 0) x1) (fun u5 => (u5.1, (va_up M4.1 0 u5.2, M4.2)))))) else (0, u2.2)))) else (bnd (fx4_refused M 0) (fun u8 => (if u8.1 = 0 then (bnd (fx4_saves u8.2) (fun M10 => (bnd (fx4_runs (M10.1 0) x1) (fun u11 => (u11.1, (va_up M10.1 0 u11.2, M10.2)))))) else (0, u8.2)))))
def sx4_run (M : Md) (x1 : Int32) : Prop := (if (fx4_within x1 0 1000) = 0 then (bnd (fx4_refused M 1) (fun u2 => (if u2.1 = 0 then (sx4_saves u2.2 ∧ (bnd (fx4_saves u2.2) (fun M4 => sx4_runs (M4.1 0) x1))) else True))) else (bnd (fx4_refused M 0) (fun u8 => (if u8.1 = 0 then (sx4_saves u8.2 ∧ (bnd (fx4_saves u8.2) (fun M10 => sx4_runs (M10.1 0) x1))) else True))))
set_option maxHeartbeats 4000000 in
set_option maxRecDepth 100000 in
theorem cx4_run {l : Launch} {D : va_G} {cI cB cS cJ : ClassId} {K : State → Prop} (E : kE D cI cB cS cJ K) (am : Nat → Nat) (M : Md) (x1 : Int32) (hF : sx4_run M x1) : kI l D K yX4_run wsX4_run 7 158 [.ref (am 0), .int x1] (mdW cI am M) (fx4_run M x1).1 (mdW cI am ((fx4_run M x1).2)) := by
  refine kI_of (own := RX4) (cc := cX4_run) (maxL := 2) (tys := kty cI cB cS cJ) (fun U h => (E.2 U h).1) (by decide) rfl rfl (Nat.le_of_ble_eq_true rfl) ?_
  intro p e s m below meth c A ls hx hb hr hml hts hown hlk hKs hK hP hD hA hS hl
  have hl : lv_has ls 2 [(0, .ref (am 0)), (1, .int x1)] := hl
  have hX : CallFix p m c cX4_run 2 s _ wsX4_run RX4 := ⟨hx, hb, hml, hown, hts⟩
  generalize hR : fx4_run M x1 = R
  rw [fx4_run] at hR
  rw [sx4_run] at hF
  refine lv_aload_n hx hb dX4_run_0 rfl (lv_at hl 0 rfl) ?_
  refine lv_iload_n hx hb dX4_run_1 rfl (lv_at hl 1 rfl) ?_
  refine lv_iconst (v := 0) hx hb dX4_run_2 (by decide) ?_
  refine lv_sipush (v := 1000) hx hb dX4_run_3 (by decide) ?_
  refine kcsI (As := [.int x1, .int 0, .int 1000]) (rest := [.ref (am 0)]) E.1 (cx4_within E x1 0 1000) hX (va_cwS 3 hts gX4_run_X4_within rfl rfl rfl hdX4_within.2 ⟨Nat.le_of_ble_eq_true rfl, Nat.le_of_ble_eq_true rfl⟩) hKs hP hD hS hA _ _ (kw_nil _) (kw_nil _).symm rfl rfl hl.1 (Nat.le_of_ble_eq_true rfl) dX4_run_6 ⟨Nat.zero_le _, Nat.zero_le _⟩ (fun H locs hP hD hS => ?_)
  refine lv_if_eq (tgt := 16) hx hb dX4_run_9 (by decide) (fun c1 => ?_) (fun c1 => ?_)
  · rw [if_pos c1] at hR hF
    refine lv_iconst (v := 1) hx hb dX4_run_16 (by decide) ?_
    refine kcI (ci := 4) (q0 := 0) (As := [.int 1]) (rest := []) E.1 (cx4_refused E am M 1) hX (cwV 1 hts gX4_run_X4_refused rfl rfl rfl hdX4_refused ⟨Nat.le_of_ble_eq_true rfl, Nat.le_of_ble_eq_true rfl⟩) hKs hK hP hD hS hA _ _ (kw_self _) (kw_self _).symm rfl rfl rfl rfl hl.1 (Nat.le_of_ble_eq_true rfl) dX4_run_17 ⟨Nat.zero_le _, Nat.zero_le _⟩ (fun H locs hP hD hS => ?_)
    have hP : va_P D vwCl (mdW cI am ((fx4_refused M 1).2)) H := hP
    have hD : va_D A (mdW cI am ((fx4_refused M 1).2)) := hD
    generalize eu2 : fx4_refused M 1 = u2 at hR hF hP hD ⊢
    replace hR := bnd_e hR
    replace hF := bnd_p hF
    refine lv_if_eq (tgt := 25) hx hb dX4_run_20 (by decide) (fun c3 => ?_) (fun c3 => ?_)
    · rw [if_pos c3] at hR hF
      refine lv_aload_n hx hb dX4_run_25 rfl (lv_at hl 0 rfl) ?_
      obtain ⟨hs7, hF⟩ := hF
      refine kcV (ci := 4) (q0 := 0) (As := []) (rest := []) E.1 (cx4_saves E am u2.2 hs7) hX (cwV 0 hts gX4_run_X4_saves rfl rfl rfl hdX4_saves ⟨Nat.le_of_ble_eq_true rfl, Nat.le_of_ble_eq_true rfl⟩) hKs hK hP hD hS hA _ _ (kw_self _) (kw_self _).symm rfl rfl rfl rfl hl.1 (Nat.le_of_ble_eq_true rfl) dX4_run_26 ⟨Nat.zero_le _, Nat.zero_le _⟩ (fun H locs hP hD hS => ?_)
      have hP : va_P D vwCl (mdW cI am (fx4_saves u2.2)) H := hP
      have hD : va_D A (mdW cI am (fx4_saves u2.2)) := hD
      generalize eM4 : fx4_saves u2.2 = M4 at hR hF hP hD
      replace hR := bnd_e hR
      replace hF := bnd_p hF
      refine lv_aload_n hx hb dX4_run_29 rfl (lv_at hl 0 rfl) ?_
      refine lv_iload_n hx hb dX4_run_30 rfl (lv_at hl 1 rfl) ?_
      have hs6 := hF
      refine kcI (ci := 4) (q0 := 0) (As := [.int x1]) (rest := []) E.1 (cx4_runs E am (M4.1 4 0) (M4.1 4 1) (M4.1 4 2) M4.2 (M4.1 0) x1 hs6) hX (cwV 1 hts gX4_run_X4_runs rfl rfl rfl hdX4_runs ⟨Nat.le_of_ble_eq_true rfl, Nat.le_of_ble_eq_true rfl⟩) hKs hK hP hD hS hA _ _ (md_mn cI am M4) (md_mn' cI am M4 _) rfl rfl rfl rfl hl.1 (Nat.le_of_ble_eq_true rfl) dX4_run_31 ⟨Nat.zero_le _, Nat.zero_le _⟩ (fun H locs hP hD hS => ?_)
      have hP : va_P D vwCl (mdW cI am (va_up M4.1 0 ((fx4_runs (M4.1 0) x1).2), M4.2)) H := hP
      have hD : va_D A (mdW cI am (va_up M4.1 0 ((fx4_runs (M4.1 0) x1).2), M4.2)) := hD
      generalize eu5 : fx4_runs (M4.1 0) x1 = u5 at hR hP hD ⊢
      replace hR := bnd_e hR
      subst hR
      exact krI hx hb hr hlk hP hD hS dX4_run_34 rfl rfl
    · rw [if_neg c3] at hR hF
      refine lv_iconst (v := 0) hx hb dX4_run_23 (by decide) ?_
      subst hR
      exact krI hx hb hr hlk hP hD hS dX4_run_24 rfl rfl
  · rw [if_neg c1] at hR hF
    refine lv_iconst (v := 0) hx hb dX4_run_12 (by decide) ?_
    refine lv_goto (tgt := 17) hx hb dX4_run_13 (by decide) ?_
    refine kcI (ci := 4) (q0 := 0) (As := [.int 0]) (rest := []) E.1 (cx4_refused E am M 0) hX (cwV 1 hts gX4_run_X4_refused rfl rfl rfl hdX4_refused ⟨Nat.le_of_ble_eq_true rfl, Nat.le_of_ble_eq_true rfl⟩) hKs hK hP hD hS hA _ _ (kw_self _) (kw_self _).symm rfl rfl rfl rfl hl.1 (Nat.le_of_ble_eq_true rfl) dX4_run_17 ⟨Nat.zero_le _, Nat.zero_le _⟩ (fun H locs hP hD hS => ?_)
    have hP : va_P D vwCl (mdW cI am ((fx4_refused M 0).2)) H := hP
    have hD : va_D A (mdW cI am ((fx4_refused M 0).2)) := hD
    generalize eu8 : fx4_refused M 0 = u8 at hR hF hP hD ⊢
    replace hR := bnd_e hR
    replace hF := bnd_p hF
    refine lv_if_eq (tgt := 25) hx hb dX4_run_20 (by decide) (fun c9 => ?_) (fun c9 => ?_)
    · rw [if_pos c9] at hR hF
      refine lv_aload_n hx hb dX4_run_25 rfl (lv_at hl 0 rfl) ?_
      obtain ⟨hs13, hF⟩ := hF
      refine kcV (ci := 4) (q0 := 0) (As := []) (rest := []) E.1 (cx4_saves E am u8.2 hs13) hX (cwV 0 hts gX4_run_X4_saves rfl rfl rfl hdX4_saves ⟨Nat.le_of_ble_eq_true rfl, Nat.le_of_ble_eq_true rfl⟩) hKs hK hP hD hS hA _ _ (kw_self _) (kw_self _).symm rfl rfl rfl rfl hl.1 (Nat.le_of_ble_eq_true rfl) dX4_run_26 ⟨Nat.zero_le _, Nat.zero_le _⟩ (fun H locs hP hD hS => ?_)
      have hP : va_P D vwCl (mdW cI am (fx4_saves u8.2)) H := hP
      have hD : va_D A (mdW cI am (fx4_saves u8.2)) := hD
      generalize eM10 : fx4_saves u8.2 = M10 at hR hF hP hD
      replace hR := bnd_e hR
      replace hF := bnd_p hF
      refine lv_aload_n hx hb dX4_run_29 rfl (lv_at hl 0 rfl) ?_
      refine lv_iload_n hx hb dX4_run_30 rfl (lv_at hl 1 rfl) ?_
      have hs12 := hF
      refine kcI (ci := 4) (q0 := 0) (As := [.int x1]) (rest := []) E.1 (cx4_runs E am (M10.1 4 0) (M10.1 4 1) (M10.1 4 2) M10.2 (M10.1 0) x1 hs12) hX (cwV 1 hts gX4_run_X4_runs rfl rfl rfl hdX4_runs ⟨Nat.le_of_ble_eq_true rfl, Nat.le_of_ble_eq_true rfl⟩) hKs hK hP hD hS hA _ _ (md_mn cI am M10) (md_mn' cI am M10 _) rfl rfl rfl rfl hl.1 (Nat.le_of_ble_eq_true rfl) dX4_run_31 ⟨Nat.zero_le _, Nat.zero_le _⟩ (fun H locs hP hD hS => ?_)
      have hP : va_P D vwCl (mdW cI am (va_up M10.1 0 ((fx4_runs (M10.1 0) x1).2), M10.2)) H := hP
      have hD : va_D A (mdW cI am (va_up M10.1 0 ((fx4_runs (M10.1 0) x1).2), M10.2)) := hD
      generalize eu11 : fx4_runs (M10.1 0) x1 = u11 at hR hP hD ⊢
      replace hR := bnd_e hR
      subst hR
      exact krI hx hb hr hlk hP hD hS dX4_run_34 rfl rfl
    · rw [if_neg c9] at hR hF
      refine lv_iconst (v := 0) hx hb dX4_run_23 (by decide) ?_
      subst hR
      exact krI hx hb hr hlk hP hD hS dX4_run_24 rfl rfl

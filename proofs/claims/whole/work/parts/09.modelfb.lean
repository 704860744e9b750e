/-! the model, whole: printed by my own program (gen.py) out of the listing -/
theorem hdX4_setPlaces : yX4_setPlaces.cls = RX4 ∧ yX4_setPlaces.cls ≠ "java/lang/invoke/MethodHandle" ∧ yX4_setPlaces.cls ≠ "java/lang/invoke/VarHandle" ∧ (parseMethodDescriptor yX4_setPlaces.desc).map (fun d => d.parameters.length) = some 5 := by decide +kernel
def fx4_setPlaces (M : Md) (x1 : Int32) (x2 : Int32) (x3 : Int32) (x4 : Int32) (x5 : Int32) : Int32 × (Md) := (if x1 < 1 then (bnd (fx4_refused M 1) (fun u2 => (if u2.1 = 0 then (bnd (fx4_saves u2.2) (fun M4 => (bnd (upd (M4.1 0) 7 x1) (fun g5 => (bnd (upd g5 8 x2) (fun g6 => (bnd (upd g6 9 x3) (fun g7 => (bnd (upd g7 10 x4) (fun g8 => (bnd (upd g8 11 x5) (fun g9 => ((M4.1 0) 11, (va_up (va_up (va_up (va_up (va_up M4.1 0 g5) 0 g6) 0 g7) 0 g8) 0 g9, M4.2)))))))))))))) else (0, u2.2)))) else (if x2 ≤ x1 then (bnd (fx4_refused M 1) (fun u12 => (if u12.1 = 0 then (bnd (fx4_saves u12.2) (fun M14 => (bnd (upd (M14.1 0) 7 x1) (fun g15 => (bnd (upd g15 8 x2) (fun g16 => (bnd (upd g16 9 x3) (fun g17 => (bnd (upd g17 10 x4) (fun g18 => (bnd (upd g18 11 x5) (fun g19 => ((M14.1 0) 11, (va_up (va_up (va_up (va_up (va_up M14.1 0 g15) 0 g16) 0 g17) 0 g18) 0 g19, M14.2)))))))))))))) else (0, u12.2)))) else (if x3 ≤ x2 then (bnd (fx4_refused M 1) (fun u22 => (if u22.1 = 0 then (bnd (fx4_saves u22.2) (fun M24 => (bnd (upd (M24.1 0) 7 x1) (fun g25 => (bnd (upd g25 8 x2) (fun g26 => (bnd (upd g26 9 x3) (fun g27 => (bnd (upd g27 10 x4) (fun g28 => (bnd (upd g28 11 x5) (fun g29 => ((M24.1 0) 11, (va_up (va_up (va_up (va_up (va_up M24.1 0 g25) 0 g26) 0 g27) 0 g28) 0 g29, M24.2)))))))))))))) else (0, u22.2)))) else (if x4 ≤ x3 then (bnd (fx4_refused M 1) (fun u32 => (if u32.1 = 0 then (bnd (fx4_saves u32.2) (fun M34 => (bnd (upd (M34.1 0) 7 x1) (fun g35 => (bnd (upd g35 8 x2) (fun g36 => (bnd (upd g36 9 x3) (fun g37 => (bnd (upd g37 10 x4) (fun g38 => (bnd (upd g38 11 x5) (fun g39 => ((M34.1 0) 11, (va_up (va_up (va_up (va_up (va_up M34.1 0 g35) 0 g36) 0 g37) 0 g38) 0 g39, M34.2)))))))))))))) else (0, u32.2)))) else (if x5 ≤ x4 then (bnd (fx4_refused M 1) (fun u42 => (if u42.1 = 0 then (bnd (fx4_saves u42.2) (fun M44 => (bnd (upd (M44.1 0) 7 x1) (fun g45 => (bnd (upd g45 8 x2) (fun g46 => (bnd (upd g46 9 x3) (fun g47 => (bnd (upd g47 10 x4) (fun g48 => (bnd (upd g48 11 x5) (fun g49 => ((M44.1 0) 11, (va_up (va_up (va_up (va_up (va_up M44.1 0 g45) 0 g46) 0 g47) 0 g48) 0 g49, M44.2)))))))))))))) else (0, u42.2)))) else (if 1000 < x5 then (bnd (fx4_refused M 1) (fun u52 => (if u52.1 = 0 then (bnd (fx4_saves u52.2) (fun M54 => (bnd (upd (M54.1 0) 7 x1) (fun g55 => (bnd (upd g55 8 x2) (fun g56 => (bnd (upd g56 9 x3) (fun g57 => (bnd (upd g57 10 x4) (fun g58 => (bnd (upd g58 11 x5) (fun g59 => ((M54.1 0) 11, (va_up (va_up (va_up (va_up (va_up M54.1 0 g55) 0 g56) 0 g57) 0 g58) 0 g59, M54.2)))))))))))))) else (0, u52.2)))) else (if 0 < ((M.1 0) 36) then (bnd (fx4_refused M 2) (fun u62 => (if u62.1 = 0 then (bnd (fx4_saves u62.2) (fun M64 => (bnd (upd (M64.1 0) 7 x1) (fun g65 => (bnd (upd g65 8 x2) (fun g66 => (bnd (upd g66 9 x3) (fun g67 => (bnd (upd g67 10 x4) (fun g68 => (bnd (upd g68 11 x5) (fun g69 => ((M64.1 0) 11, (va_up (va_up (va_up (va_up (va_up M64.1 0 g65) 0 g66) 0 g67) 0 g68) 0 g69, M64.2)))))))))))))) else (0, u62.2)))) else (if ((M.1 0) 117) ≤ 0 then (bnd (fx4_refused M 0) (fun u72 => (if u72.1 = 0 then (bnd (fx4_saves u72.2) (fun M74 => (bnd (upd (M74.1 0) 7 x1) (fun g75 => (bnd (upd g75 8 x2) (fun g76 => (bnd (upd g76 9 x3) (fun g77 => (bnd (upd g77 10 x4) (fun g78 => (bnd (upd g78 11 x5) (fun g79 => ((M74.1 0) 11, (va_up (va_up (va_up (va_up (va_up M74.1 0 g75) 0 g76) 0 g77) 0 g78) 0 g79, M74.2)))))))))))))) else (0, u72.2)))) else (bnd (fx4_refused M 2) (fun u81 => (if u81.1 = 0 then (bnd (fx4_saves u81.2) (fun M83 => (bnd (upd (M83.1 0) 7 x1) (fun g84 => (bnd (upd g84 8 x2) (fun g85 => (bnd (upd g85 9 x3) (fun g86 => (bnd (upd g86 10 x4) (fun g87 => (bnd (upd g87 11 x5) (fun g88 => ((M83.1 0) 11, (va_up (va_up (va_up (va_up (va_up M83.1 0 g84) 0 g85) 0 g86) 0 g87) 0 g88, M83.2)))))))))))))) else (0, u81.2))))))))))))
def sx4_setPlaces (M : Md) (x1 : Int32) (x2 : Int32) (x3 : Int32) (x4 : Int32) (x5 : Int32) : Prop := (if x1 < 1 then (bnd (fx4_refused M 1) (fun u2 => (if u2.1 = 0 then sx4_saves u2.2 else True))) else (if x2 ≤ x1 then (bnd (fx4_refused M 1) (fun u12 => (if u12.1 = 0 then sx4_saves u12.2 else True))) else (if x3 ≤ x2 then (bnd (fx4_refused M 1) (fun u22 => (if u22.1 = 0 then sx4_saves u22.2 else True))) else (if x4 ≤ x3 then (bnd (fx4_refused M 1) (fun u32 => (if u32.1 = 0 then sx4_saves u32.2 else True))) else (if x5 ≤ x4 then (bnd (fx4_refused M 1) (fun u42 => (if u42.1 = 0 then sx4_saves u42.2 else True))) else (if 1000 < x5 then (bnd (fx4_refused M 1) (fun u52 => (if u52.1 = 0 then sx4_saves u52.2 else True))) else (if 0 < ((M.1 0) 36) then (bnd (fx4_refused M 2) (fun u62 => (if u62.1 = 0 then sx4_saves u62.2 else True))) else (if ((M.1 0) 117) ≤ 0 then (bnd (fx4_refused M 0) (fun u72 => (if u72.1 = 0 then sx4_saves u72.2 else True))) else (bnd (fx4_refused M 2) (fun u81 => (if u81.1 = 0 then sx4_saves u81.2 else True)))))))))))
set_option maxHeartbeats 4000000 in
set_option maxRecDepth 100000 in
theorem cx4_setPlaces {l : Launch} {D : va_G} {cI cB cS cJ : ClassId} {K : State → Prop} (E : kE D cI cB cS cJ K) (am : Nat → Nat) (M : Md) (x1 : Int32) (x2 : Int32) (x3 : Int32) (x4 : Int32) (x5 : Int32) (hF : sx4_setPlaces M x1 x2 x3 x4 x5) : kI l D K yX4_setPlaces wsX4_setPlaces 1 21 [.ref (am 0), .int x1, .int x2, .int x3, .int x4, .int x5] (mdW cI am M) (fx4_setPlaces M x1 x2 x3 x4 x5).1 (mdW cI am ((fx4_setPlaces M x1 x2 x3 x4 x5).2)) := by
  refine kI_of (own := RX4) (cc := cX4_setPlaces) (maxL := 8) (tys := kty cI cB cS cJ) (fun U h => (E.2 U h).1) (by decide) rfl rfl (Nat.le_of_ble_eq_true rfl) ?_
  intro p e s m below meth c A ls hx hb hr hml hts hown hlk hKs hK hP hD hA hS hl
  have hl : lv_has ls 8 [(0, .ref (am 0)), (1, .int x1), (2, .int x2), (3, .int x3), (4, .int x4), (5, .int x5)] := hl
  have hX : CallFix p m c cX4_setPlaces 8 s _ wsX4_setPlaces RX4 := ⟨hx, hb, hml, hown, hts⟩
  have hinX4 : ∀ w ∈ wsX40, w ∈ wsX4_setPlaces := fun w h => List.mem_cons_of_mem _ (List.mem_append_right _ h)
  have q1 := hts (.fieldLink RX4 7 "LabelStationModel" "now" "[I") (List.mem_of_getElem? (i := 1) rfl)
  generalize hR : fx4_setPlaces M x1 x2 x3 x4 x5 = R
  rw [fx4_setPlaces] at hR
  rw [sx4_setPlaces] at hF
  refine lv_iload_n hx hb dX4_setPlaces_0 rfl (lv_at hl 1 rfl) ?_
  refine lv_iconst (v := 1) hx hb dX4_setPlaces_1 (by decide) ?_
  refine lv_icmp_lt (tgt := 40) hx hb dX4_setPlaces_2 (by decide) (fun c1 => ?_) (fun c1 => ?_)
  · rw [if_pos c1] at hR hF
    refine lv_iconst (v := 0) hx hb dX4_setPlaces_40 (by decide) ?_
    refine lv_istore (lv' := [(6, .int 0), (0, .ref (am 0)), (1, .int x1), (2, .int x2), (3, .int x3), (4, .int x4), (5, .int x5)]) hx hb dX4_setPlaces_41 hl (by decide) rfl (fun ls hl => ?_)
    refine lv_aload_n hx hb dX4_setPlaces_43 rfl (lv_at hl 1 rfl) ?_
    refine lv_iload hx hb dX4_setPlaces_44 (lv_at hl 0 rfl) ?_
    refine lv_if_ne (tgt := 53) hx hb dX4_setPlaces_46 (by decide) (fun c => absurd (by decide) c) (fun _ => ?_)
    refine lv_iconst (v := 1) hx hb dX4_setPlaces_49 (by decide) ?_
    refine lv_goto (tgt := 78) hx hb dX4_setPlaces_50 (by decide) ?_
    refine kcI (ci := 4) (q0 := 0) (As := [.int 1]) (rest := []) E.1 (cx4_refused E am M 1) hX (cwV 1 hts gX4_setPlaces_X4_refused rfl rfl rfl hdX4_refused ⟨Nat.le_of_ble_eq_true rfl, Nat.le_of_ble_eq_true rfl⟩) hKs hK hP hD hS hA _ _ (kw_self _) (kw_self _).symm rfl rfl rfl rfl hl.1 (Nat.le_of_ble_eq_true rfl) dX4_setPlaces_78 ⟨Nat.zero_le _, Nat.zero_le _⟩ (fun H locs hP hD hS => ?_)
    have hP : va_P D vwCl (mdW cI am ((fx4_refused M 1).2)) H := hP
    have hD : va_D A (mdW cI am ((fx4_refused M 1).2)) := hD
    generalize eu2 : fx4_refused M 1 = u2 at hR hF hP hD ⊢
    replace hR := bnd_e hR
    replace hF := bnd_p hF
    refine lv_if_eq (tgt := 86) hx hb dX4_setPlaces_81 (by decide) (fun c3 => ?_) (fun c3 => ?_)
    · rw [if_pos c3] at hR hF
      refine lv_aload_n hx hb dX4_setPlaces_86 rfl (lv_at hl 1 rfl) ?_
      have hs10 := hF
      refine kcV (ci := 4) (q0 := 0) (As := []) (rest := []) E.1 (cx4_saves E am u2.2 hs10) hX (cwV 0 hts gX4_setPlaces_X4_saves rfl rfl rfl hdX4_saves ⟨Nat.le_of_ble_eq_true rfl, Nat.le_of_ble_eq_true rfl⟩) hKs hK hP hD hS hA _ _ (kw_self _) (kw_self _).symm rfl rfl rfl rfl hl.1 (Nat.le_of_ble_eq_true rfl) dX4_setPlaces_87 ⟨Nat.zero_le _, Nat.zero_le _⟩ (fun H locs hP hD hS => ?_)
      have hP : va_P D vwCl (mdW cI am (fx4_saves u2.2)) H := hP
      have hD : va_D A (mdW cI am (fx4_saves u2.2)) := hD
      generalize eM4 : fx4_saves u2.2 = M4 at hR hP hD
      replace hR := bnd_e hR
      refine lv_aload_n hx hb dX4_setPlaces_90 rfl (lv_at hl 1 rfl) ?_
      refine va_get (D := D) (ci := 4) (v := .ref (am 1)) (C := RX4) (T := TX4) (N := 8) hx hb hts hinX4 hown hK hP 0 rfl rfl 0 (by decide) q1 (fun _ h9 => h9) rfl dX4_setPlaces_91 ?_
      refine lv_bipush (v := 11) hx hb dX4_setPlaces_94 (by decide) ?_
      refine va_iald hx hb hK hP 1 0 rfl rfl (kin_lit (j := 11) (n := 1203) (by decide) (by decide)) dX4_setPlaces_96 ?_
      refine kw_top (v := .int ((M4.1 0) 11)) rfl ?_
      refine lv_istore (lv' := [(7, .int ((M4.1 0) 11)), (6, .int 0), (0, .ref (am 0)), (1, .int x1), (2, .int x2), (3, .int x3), (4, .int x4), (5, .int x5)]) hx hb dX4_setPlaces_97 hl (by decide) rfl (fun ls hl => ?_)
      refine lv_aload_n hx hb dX4_setPlaces_99 rfl (lv_at hl 2 rfl) ?_
      refine va_get (D := D) (ci := 4) (v := .ref (am 1)) (C := RX4) (T := TX4) (N := 8) hx hb hts hinX4 hown hK hP 0 rfl rfl 0 (by decide) q1 (fun _ h9 => h9) rfl dX4_setPlaces_100 ?_
      refine lv_bipush (v := 7) hx hb dX4_setPlaces_103 (by decide) ?_
      refine lv_iload_n hx hb dX4_setPlaces_105 rfl (lv_at hl 3 rfl) ?_
      refine va_iast hx hb hK hP hD hS 1 0 rfl rfl (kin_lit (j := 7) (n := 1203) (by decide) (by decide)) dX4_setPlaces_106 (fun H locs hP hD hS => ?_)
      have hP : va_P D vwCl (mdW cI am (va_up M4.1 0 (upd (M4.1 0) 7 x1), M4.2)) H := hP
      have hD : va_D A (mdW cI am (va_up M4.1 0 (upd (M4.1 0) 7 x1), M4.2)) := hD
      generalize eg5 : upd (M4.1 0) 7 x1 = g5 at hR hP hD
      replace hR := bnd_e hR
      refine lv_aload_n hx hb dX4_setPlaces_107 rfl (lv_at hl 2 rfl) ?_
      refine va_get (D := D) (ci := 4) (v := .ref (am 1)) (C := RX4) (T := TX4) (N := 8) hx hb hts hinX4 hown hK hP 0 rfl rfl 0 (by decide) q1 (fun _ h9 => h9) rfl dX4_setPlaces_108 ?_
      refine lv_bipush (v := 8) hx hb dX4_setPlaces_111 (by decide) ?_
      refine lv_iload_n hx hb dX4_setPlaces_113 rfl (lv_at hl 4 rfl) ?_
      refine va_iast hx hb hK hP hD hS 1 0 rfl rfl (kin_lit (j := 8) (n := 1203) (by decide) (by decide)) dX4_setPlaces_114 (fun H locs hP hD hS => ?_)
      have hP : va_P D vwCl (mdW cI am (va_up (va_up M4.1 0 g5) 0 (upd g5 8 x2), M4.2)) H := hP
      have hD : va_D A (mdW cI am (va_up (va_up M4.1 0 g5) 0 (upd g5 8 x2), M4.2)) := hD
      generalize eg6 : upd g5 8 x2 = g6 at hR hP hD
      replace hR := bnd_e hR
      refine lv_aload_n hx hb dX4_setPlaces_115 rfl (lv_at hl 2 rfl) ?_
      refine va_get (D := D) (ci := 4) (v := .ref (am 1)) (C := RX4) (T := TX4) (N := 8) hx hb hts hinX4 hown hK hP 0 rfl rfl 0 (by decide) q1 (fun _ h9 => h9) rfl dX4_setPlaces_116 ?_
      refine lv_bipush (v := 9) hx hb dX4_setPlaces_119 (by decide) ?_
      refine lv_iload_n hx hb dX4_setPlaces_121 rfl (lv_at hl 5 rfl) ?_
      refine va_iast hx hb hK hP hD hS 1 0 rfl rfl (kin_lit (j := 9) (n := 1203) (by decide) (by decide)) dX4_setPlaces_122 (fun H locs hP hD hS => ?_)
      have hP : va_P D vwCl (mdW cI am (va_up (va_up (va_up M4.1 0 g5) 0 g6) 0 (upd g6 9 x3), M4.2)) H := hP
      have hD : va_D A (mdW cI am (va_up (va_up (va_up M4.1 0 g5) 0 g6) 0 (upd g6 9 x3), M4.2)) := hD
      generalize eg7 : upd g6 9 x3 = g7 at hR hP hD
      replace hR := bnd_e hR
      refine lv_aload_n hx hb dX4_setPlaces_123 rfl (lv_at hl 2 rfl) ?_
      refine va_get (D := D) (ci := 4) (v := .ref (am 1)) (C := RX4) (T := TX4) (N := 8) hx hb hts hinX4 hown hK hP 0 rfl rfl 0 (by decide) q1 (fun _ h9 => h9) rfl dX4_setPlaces_124 ?_
      refine lv_bipush (v := 10) hx hb dX4_setPlaces_127 (by decide) ?_
      refine lv_iload hx hb dX4_setPlaces_129 (lv_at hl 6 rfl) ?_
      refine va_iast hx hb hK hP hD hS 1 0 rfl rfl (kin_lit (j := 10) (n := 1203) (by decide) (by decide)) dX4_setPlaces_131 (fun H locs hP hD hS => ?_)
      have hP : va_P D vwCl (mdW cI am (va_up (va_up (va_up (va_up M4.1 0 g5) 0 g6) 0 g7) 0 (upd g7 10 x4), M4.2)) H := hP
      have hD : va_D A (mdW cI am (va_up (va_up (va_up (va_up M4.1 0 g5) 0 g6) 0 g7) 0 (upd g7 10 x4), M4.2)) := hD
      generalize eg8 : upd g7 10 x4 = g8 at hR hP hD
      replace hR := bnd_e hR
      refine lv_aload_n hx hb dX4_setPlaces_132 rfl (lv_at hl 2 rfl) ?_
      refine va_get (D := D) (ci := 4) (v := .ref (am 1)) (C := RX4) (T := TX4) (N := 8) hx hb hts hinX4 hown hK hP 0 rfl rfl 0 (by decide) q1 (fun _ h9 => h9) rfl dX4_setPlaces_133 ?_
      refine lv_bipush (v := 11) hx hb dX4_setPlaces_136 (by decide) ?_
      refine lv_iload hx hb dX4_setPlaces_138 (lv_at hl 7 rfl) ?_
      refine va_iast hx hb hK hP hD hS 1 0 rfl rfl (kin_lit (j := 11) (n := 1203) (by decide) (by decide)) dX4_setPlaces_140 (fun H locs hP hD hS => ?_)
      have hP : va_P D vwCl (mdW cI am (va_up (va_up (va_up (va_up (va_up M4.1 0 g5) 0 g6) 0 g7) 0 g8) 0 (upd g8 11 x5), M4.2)) H := hP
      have hD : va_D A (mdW cI am (va_up (va_up (va_up (va_up (va_up M4.1 0 g5) 0 g6) 0 g7) 0 g8) 0 (upd g8 11 x5), M4.2)) := hD
      generalize eg9 : upd g8 11 x5 = g9 at hR hP hD
      replace hR := bnd_e hR
      refine lv_iload hx hb dX4_setPlaces_141 (lv_at hl 0 rfl) ?_
      subst hR
      exact krI hx hb hr hlk hP hD hS dX4_setPlaces_143 rfl rfl
    · rw [if_neg c3] at hR hF
      refine lv_iconst (v := 0) hx hb dX4_setPlaces_84 (by decide) ?_
      subst hR
      exact krI hx hb hr hlk hP hD hS dX4_setPlaces_85 rfl rfl
  · rw [if_neg c1] at hR hF
    refine lv_iload_n hx hb dX4_setPlaces_5 rfl (lv_at hl 1 rfl) ?_
    refine lv_iload_n hx hb dX4_setPlaces_6 rfl (lv_at hl 2 rfl) ?_
    refine lv_icmp_ge (tgt := 40) hx hb dX4_setPlaces_7 (by decide) (fun c11 => ?_) (fun c11 => ?_)
    · rw [if_pos c11] at hR hF
      refine lv_iconst (v := 0) hx hb dX4_setPlaces_40 (by decide) ?_
      refine lv_istore (lv' := [(6, .int 0), (0, .ref (am 0)), (1, .int x1), (2, .int x2), (3, .int x3), (4, .int x4), (5, .int x5)]) hx hb dX4_setPlaces_41 hl (by decide) rfl (fun ls hl => ?_)
      refine lv_aload_n hx hb dX4_setPlaces_43 rfl (lv_at hl 1 rfl) ?_
      refine lv_iload hx hb dX4_setPlaces_44 (lv_at hl 0 rfl) ?_
      refine lv_if_ne (tgt := 53) hx hb dX4_setPlaces_46 (by decide) (fun c => absurd (by decide) c) (fun _ => ?_)
      refine lv_iconst (v := 1) hx hb dX4_setPlaces_49 (by decide) ?_
      refine lv_goto (tgt := 78) hx hb dX4_setPlaces_50 (by decide) ?_
      refine kcI (ci := 4) (q0 := 0) (As := [.int 1]) (rest := []) E.1 (cx4_refused E am M 1) hX (cwV 1 hts gX4_setPlaces_X4_refused rfl rfl rfl hdX4_refused ⟨Nat.le_of_ble_eq_true rfl, Nat.le_of_ble_eq_true rfl⟩) hKs hK hP hD hS hA _ _ (kw_self _) (kw_self _).symm rfl rfl rfl rfl hl.1 (Nat.le_of_ble_eq_true rfl) dX4_setPlaces_78 ⟨Nat.zero_le _, Nat.zero_le _⟩ (fun H locs hP hD hS => ?_)
      have hP : va_P D vwCl (mdW cI am ((fx4_refused M 1).2)) H := hP
      have hD : va_D A (mdW cI am ((fx4_refused M 1).2)) := hD
      generalize eu12 : fx4_refused M 1 = u12 at hR hF hP hD ⊢
      replace hR := bnd_e hR
      replace hF := bnd_p hF
      refine lv_if_eq (tgt := 86) hx hb dX4_setPlaces_81 (by decide) (fun c13 => ?_) (fun c13 => ?_)
      · rw [if_pos c13] at hR hF
        refine lv_aload_n hx hb dX4_setPlaces_86 rfl (lv_at hl 1 rfl) ?_
        have hs20 := hF
        refine kcV (ci := 4) (q0 := 0) (As := []) (rest := []) E.1 (cx4_saves E am u12.2 hs20) hX (cwV 0 hts gX4_setPlaces_X4_saves rfl rfl rfl hdX4_saves ⟨Nat.le_of_ble_eq_true rfl, Nat.le_of_ble_eq_true rfl⟩) hKs hK hP hD hS hA _ _ (kw_self _) (kw_self _).symm rfl rfl rfl rfl hl.1 (Nat.le_of_ble_eq_true rfl) dX4_setPlaces_87 ⟨Nat.zero_le _, Nat.zero_le _⟩ (fun H locs hP hD hS => ?_)
        have hP : va_P D vwCl (mdW cI am (fx4_saves u12.2)) H := hP
        have hD : va_D A (mdW cI am (fx4_saves u12.2)) := hD
        generalize eM14 : fx4_saves u12.2 = M14 at hR hP hD
        replace hR := bnd_e hR
        refine lv_aload_n hx hb dX4_setPlaces_90 rfl (lv_at hl 1 rfl) ?_
        refine va_get (D := D) (ci := 4) (v := .ref (am 1)) (C := RX4) (T := TX4) (N := 8) hx hb hts hinX4 hown hK hP 0 rfl rfl 0 (by decide) q1 (fun _ h9 => h9) rfl dX4_setPlaces_91 ?_
        refine lv_bipush (v := 11) hx hb dX4_setPlaces_94 (by decide) ?_
        refine va_iald hx hb hK hP 1 0 rfl rfl (kin_lit (j := 11) (n := 1203) (by decide) (by decide)) dX4_setPlaces_96 ?_
        refine kw_top (v := .int ((M14.1 0) 11)) rfl ?_
        refine lv_istore (lv' := [(7, .int ((M14.1 0) 11)), (6, .int 0), (0, .ref (am 0)), (1, .int x1), (2, .int x2), (3, .int x3), (4, .int x4), (5, .int x5)]) hx hb dX4_setPlaces_97 hl (by decide) rfl (fun ls hl => ?_)
        refine lv_aload_n hx hb dX4_setPlaces_99 rfl (lv_at hl 2 rfl) ?_
        refine va_get (D := D) (ci := 4) (v := .ref (am 1)) (C := RX4) (T := TX4) (N := 8) hx hb hts hinX4 hown hK hP 0 rfl rfl 0 (by decide) q1 (fun _ h9 => h9) rfl dX4_setPlaces_100 ?_
        refine lv_bipush (v := 7) hx hb dX4_setPlaces_103 (by decide) ?_
        refine lv_iload_n hx hb dX4_setPlaces_105 rfl (lv_at hl 3 rfl) ?_
        refine va_iast hx hb hK hP hD hS 1 0 rfl rfl (kin_lit (j := 7) (n := 1203) (by decide) (by decide)) dX4_setPlaces_106 (fun H locs hP hD hS => ?_)
        have hP : va_P D vwCl (mdW cI am (va_up M14.1 0 (upd (M14.1 0) 7 x1), M14.2)) H := hP
        have hD : va_D A (mdW cI am (va_up M14.1 0 (upd (M14.1 0) 7 x1), M14.2)) := hD
        generalize eg15 : upd (M14.1 0) 7 x1 = g15 at hR hP hD
        replace hR := bnd_e hR
        refine lv_aload_n hx hb dX4_setPlaces_107 rfl (lv_at hl 2 rfl) ?_
        refine va_get (D := D) (ci := 4) (v := .ref (am 1)) (C := RX4) (T := TX4) (N := 8) hx hb hts hinX4 hown hK hP 0 rfl rfl 0 (by decide) q1 (fun _ h9 => h9) rfl dX4_setPlaces_108 ?_
        refine lv_bipush (v := 8) hx hb dX4_setPlaces_111 (by decide) ?_
        refine lv_iload_n hx hb dX4_setPlaces_113 rfl (lv_at hl 4 rfl) ?_
        refine va_iast hx hb hK hP hD hS 1 0 rfl rfl (kin_lit (j := 8) (n := 1203) (by decide) (by decide)) dX4_setPlaces_114 (fun H locs hP hD hS => ?_)
        have hP : va_P D vwCl (mdW cI am (va_up (va_up M14.1 0 g15) 0 (upd g15 8 x2), M14.2)) H := hP
        have hD : va_D A (mdW cI am (va_up (va_up M14.1 0 g15) 0 (upd g15 8 x2), M14.2)) := hD
        generalize eg16 : upd g15 8 x2 = g16 at hR hP hD
        replace hR := bnd_e hR
        refine lv_aload_n hx hb dX4_setPlaces_115 rfl (lv_at hl 2 rfl) ?_
        refine va_get (D := D) (ci := 4) (v := .ref (am 1)) (C := RX4) (T := TX4) (N := 8) hx hb hts hinX4 hown hK hP 0 rfl rfl 0 (by decide) q1 (fun _ h9 => h9) rfl dX4_setPlaces_116 ?_
        refine lv_bipush (v := 9) hx hb dX4_setPlaces_119 (by decide) ?_
        refine lv_iload_n hx hb dX4_setPlaces_121 rfl (lv_at hl 5 rfl) ?_
        refine va_iast hx hb hK hP hD hS 1 0 rfl rfl (kin_lit (j := 9) (n := 1203) (by decide) (by decide)) dX4_setPlaces_122 (fun H locs hP hD hS => ?_)
        have hP : va_P D vwCl (mdW cI am (va_up (va_up (va_up M14.1 0 g15) 0 g16) 0 (upd g16 9 x3), M14.2)) H := hP
        have hD : va_D A (mdW cI am (va_up (va_up (va_up M14.1 0 g15) 0 g16) 0 (upd g16 9 x3), M14.2)) := hD
        generalize eg17 : upd g16 9 x3 = g17 at hR hP hD
        replace hR := bnd_e hR
        refine lv_aload_n hx hb dX4_setPlaces_123 rfl (lv_at hl 2 rfl) ?_
        refine va_get (D := D) (ci := 4) (v := .ref (am 1)) (C := RX4) (T := TX4) (N := 8) hx hb hts hinX4 hown hK hP 0 rfl rfl 0 (by decide) q1 (fun _ h9 => h9) rfl dX4_setPlaces_124 ?_
        refine lv_bipush (v := 10) hx hb dX4_setPlaces_127 (by decide) ?_
        refine lv_iload hx hb dX4_setPlaces_129 (lv_at hl 6 rfl) ?_
        refine va_iast hx hb hK hP hD hS 1 0 rfl rfl (kin_lit (j := 10) (n := 1203) (by decide) (by decide)) dX4_setPlaces_131 (fun H locs hP hD hS => ?_)
        have hP : va_P D vwCl (mdW cI am (va_up (va_up (va_up (va_up M14.1 0 g15) 0 g16) 0 g17) 0 (upd g17 10 x4), M14.2)) H := hP
        have hD : va_D A (mdW cI am (va_up (va_up (va_up (va_up M14.1 0 g15) 0 g16) 0 g17) 0 (upd g17 10 x4), M14.2)) := hD
        generalize eg18 : upd g17 10 x4 = g18 at hR hP hD
        replace hR := bnd_e hR
        refine lv_aload_n hx hb dX4_setPlaces_132 rfl (lv_at hl 2 rfl) ?_
        refine va_get (D := D) (ci := 4) (v := .ref (am 1)) (C := RX4) (T := TX4) (N := 8) hx hb hts hinX4 hown hK hP 0 rfl rfl 0 (by decide) q1 (fun _ h9 => h9) rfl dX4_setPlaces_133 ?_
        refine lv_bipush (v := 11) hx hb dX4_setPlaces_136 (by decide) ?_
        refine lv_iload hx hb dX4_setPlaces_138 (lv_at hl 7 rfl) ?_
        refine va_iast hx hb hK hP hD hS 1 0 rfl rfl (kin_lit (j := 11) (n := 1203) (by decide) (by decide)) dX4_setPlaces_140 (fun H locs hP hD hS => ?_)
        have hP : va_P D vwCl (mdW cI am (va_up (va_up (va_up (va_up (va_up M14.1 0 g15) 0 g16) 0 g17) 0 g18) 0 (upd g18 11 x5), M14.2)) H := hP
        have hD : va_D A (mdW cI am (va_up (va_up (va_up (va_up (va_up M14.1 0 g15) 0 g16) 0 g17) 0 g18) 0 (upd g18 11 x5), M14.2)) := hD
        generalize eg19 : upd g18 11 x5 = g19 at hR hP hD
        replace hR := bnd_e hR
        refine lv_iload hx hb dX4_setPlaces_141 (lv_at hl 0 rfl) ?_
        subst hR
        exact krI hx hb hr hlk hP hD hS dX4_setPlaces_143 rfl rfl
      · rw [if_neg c13] at hR hF
        refine lv_iconst (v := 0) hx hb dX4_setPlaces_84 (by decide) ?_
        subst hR
        exact krI hx hb hr hlk hP hD hS dX4_setPlaces_85 rfl rfl
    · rw [if_neg c11] at hR hF
      refine lv_iload_n hx hb dX4_setPlaces_10 rfl (lv_at hl 2 rfl) ?_
      refine lv_iload_n hx hb dX4_setPlaces_11 rfl (lv_at hl 3 rfl) ?_
      refine lv_icmp_ge (tgt := 40) hx hb dX4_setPlaces_12 (by decide) (fun c21 => ?_) (fun c21 => ?_)
      · rw [if_pos c21] at hR hF
        refine lv_iconst (v := 0) hx hb dX4_setPlaces_40 (by decide) ?_
        refine lv_istore (lv' := [(6, .int 0), (0, .ref (am 0)), (1, .int x1), (2, .int x2), (3, .int x3), (4, .int x4), (5, .int x5)]) hx hb dX4_setPlaces_41 hl (by decide) rfl (fun ls hl => ?_)
        refine lv_aload_n hx hb dX4_setPlaces_43 rfl (lv_at hl 1 rfl) ?_
        refine lv_iload hx hb dX4_setPlaces_44 (lv_at hl 0 rfl) ?_
        refine lv_if_ne (tgt := 53) hx hb dX4_setPlaces_46 (by decide) (fun c => absurd (by decide) c) (fun _ => ?_)
        refine lv_iconst (v := 1) hx hb dX4_setPlaces_49 (by decide) ?_
        refine lv_goto (tgt := 78) hx hb dX4_setPlaces_50 (by decide) ?_
        refine kcI (ci := 4) (q0 := 0) (As := [.int 1]) (rest := []) E.1 (cx4_refused E am M 1) hX (cwV 1 hts gX4_setPlaces_X4_refused rfl rfl rfl hdX4_refused ⟨Nat.le_of_ble_eq_true rfl, Nat.le_of_ble_eq_true rfl⟩) hKs hK hP hD hS hA _ _ (kw_self _) (kw_self _).symm rfl rfl rfl rfl hl.1 (Nat.le_of_ble_eq_true rfl) dX4_setPlaces_78 ⟨Nat.zero_le _, Nat.zero_le _⟩ (fun H locs hP hD hS => ?_)
        have hP : va_P D vwCl (mdW cI am ((fx4_refused M 1).2)) H := hP
        have hD : va_D A (mdW cI am ((fx4_refused M 1).2)) := hD
        generalize eu22 : fx4_refused M 1 = u22 at hR hF hP hD ⊢
        replace hR := bnd_e hR
        replace hF := bnd_p hF
        refine lv_if_eq (tgt := 86) hx hb dX4_setPlaces_81 (by decide) (fun c23 => ?_) (fun c23 => ?_)
        · rw [if_pos c23] at hR hF
          refine lv_aload_n hx hb dX4_setPlaces_86 rfl (lv_at hl 1 rfl) ?_
          have hs30 := hF
          refine kcV (ci := 4) (q0 := 0) (As := []) (rest := []) E.1 (cx4_saves E am u22.2 hs30) hX (cwV 0 hts gX4_setPlaces_X4_saves rfl rfl rfl hdX4_saves ⟨Nat.le_of_ble_eq_true rfl, Nat.le_of_ble_eq_true rfl⟩) hKs hK hP hD hS hA _ _ (kw_self _) (kw_self _).symm rfl rfl rfl rfl hl.1 (Nat.le_of_ble_eq_true rfl) dX4_setPlaces_87 ⟨Nat.zero_le _, Nat.zero_le _⟩ (fun H locs hP hD hS => ?_)
          have hP : va_P D vwCl (mdW cI am (fx4_saves u22.2)) H := hP
          have hD : va_D A (mdW cI am (fx4_saves u22.2)) := hD
          generalize eM24 : fx4_saves u22.2 = M24 at hR hP hD
          replace hR := bnd_e hR
          refine lv_aload_n hx hb dX4_setPlaces_90 rfl (lv_at hl 1 rfl) ?_
          refine va_get (D := D) (ci := 4) (v := .ref (am 1)) (C := RX4) (T := TX4) (N := 8) hx hb hts hinX4 hown hK hP 0 rfl rfl 0 (by decide) q1 (fun _ h9 => h9) rfl dX4_setPlaces_91 ?_
          refine lv_bipush (v := 11) hx hb dX4_setPlaces_94 (by decide) ?_
          refine va_iald hx hb hK hP 1 0 rfl rfl (kin_lit (j := 11) (n := 1203) (by decide) (by decide)) dX4_setPlaces_96 ?_
          refine kw_top (v := .int ((M24.1 0) 11)) rfl ?_
          refine lv_istore (lv' := [(7, .int ((M24.1 0) 11)), (6, .int 0), (0, .ref (am 0)), (1, .int x1), (2, .int x2), (3, .int x3), (4, .int x4), (5, .int x5)]) hx hb dX4_setPlaces_97 hl (by decide) rfl (fun ls hl => ?_)
          refine lv_aload_n hx hb dX4_setPlaces_99 rfl (lv_at hl 2 rfl) ?_
          refine va_get (D := D) (ci := 4) (v := .ref (am 1)) (C := RX4) (T := TX4) (N := 8) hx hb hts hinX4 hown hK hP 0 rfl rfl 0 (by decide) q1 (fun _ h9 => h9) rfl dX4_setPlaces_100 ?_
          refine lv_bipush (v := 7) hx hb dX4_setPlaces_103 (by decide) ?_
          refine lv_iload_n hx hb dX4_setPlaces_105 rfl (lv_at hl 3 rfl) ?_
          refine va_iast hx hb hK hP hD hS 1 0 rfl rfl (kin_lit (j := 7) (n := 1203) (by decide) (by decide)) dX4_setPlaces_106 (fun H locs hP hD hS => ?_)
          have hP : va_P D vwCl (mdW cI am (va_up M24.1 0 (upd (M24.1 0) 7 x1), M24.2)) H := hP
          have hD : va_D A (mdW cI am (va_up M24.1 0 (upd (M24.1 0) 7 x1), M24.2)) := hD
          generalize eg25 : upd (M24.1 0) 7 x1 = g25 at hR hP hD
          replace hR := bnd_e hR
          refine lv_aload_n hx hb dX4_setPlaces_107 rfl (lv_at hl 2 rfl) ?_
          refine va_get (D := D) (ci := 4) (v := .ref (am 1)) (C := RX4) (T := TX4) (N := 8) hx hb hts hinX4 hown hK hP 0 rfl rfl 0 (by decide) q1 (fun _ h9 => h9) rfl dX4_setPlaces_108 ?_
          refine lv_bipush (v := 8) hx hb dX4_setPlaces_111 (by decide) ?_
          refine lv_iload_n hx hb dX4_setPlaces_113 rfl (lv_at hl 4 rfl) ?_
          refine va_iast hx hb hK hP hD hS 1 0 rfl rfl (kin_lit (j := 8) (n := 1203) (by decide) (by decide)) dX4_setPlaces_114 (fun H locs hP hD hS => ?_)
          have hP : va_P D vwCl (mdW cI am (va_up (va_up M24.1 0 g25) 0 (upd g25 8 x2), M24.2)) H := hP
          have hD : va_D A (mdW cI am (va_up (va_up M24.1 0 g25) 0 (upd g25 8 x2), M24.2)) := hD
          generalize eg26 : upd g25 8 x2 = g26 at hR hP hD
          replace hR := bnd_e hR
          refine lv_aload_n hx hb dX4_setPlaces_115 rfl (lv_at hl 2 rfl) ?_
          refine va_get (D := D) (ci := 4) (v := .ref (am 1)) (C := RX4) (T := TX4) (N := 8) hx hb hts hinX4 hown hK hP 0 rfl rfl 0 (by decide) q1 (fun _ h9 => h9) rfl dX4_setPlaces_116 ?_
          refine lv_bipush (v := 9) hx hb dX4_setPlaces_119 (by decide) ?_
          refine lv_iload_n hx hb dX4_setPlaces_121 rfl (lv_at hl 5 rfl) ?_
          refine va_iast hx hb hK hP hD hS 1 0 rfl rfl (kin_lit (j := 9) (n := 1203) (by decide) (by decide)) dX4_setPlaces_122 (fun H locs hP hD hS => ?_)
          have hP : va_P D vwCl (mdW cI am (va_up (va_up (va_up M24.1 0 g25) 0 g26) 0 (upd g26 9 x3), M24.2)) H := hP
          have hD : va_D A (mdW cI am (va_up (va_up (va_up M24.1 0 g25) 0 g26) 0 (upd g26 9 x3), M24.2)) := hD
          generalize eg27 : upd g26 9 x3 = g27 at hR hP hD
          replace hR := bnd_e hR
          refine lv_aload_n hx hb dX4_setPlaces_123 rfl (lv_at hl 2 rfl) ?_
          refine va_get (D := D) (ci := 4) (v := .ref (am 1)) (C := RX4) (T := TX4) (N := 8) hx hb hts hinX4 hown hK hP 0 rfl rfl 0 (by decide) q1 (fun _ h9 => h9) rfl dX4_setPlaces_124 ?_
          refine lv_bipush (v := 10) hx hb dX4_setPlaces_127 (by decide) ?_
          refine lv_iload hx hb dX4_setPlaces_129 (lv_at hl 6 rfl) ?_
          refine va_iast hx hb hK hP hD hS 1 0 rfl rfl (kin_lit (j := 10) (n := 1203) (by decide) (by decide)) dX4_setPlaces_131 (fun H locs hP hD hS => ?_)
          have hP : va_P D vwCl (mdW cI am (va_up (va_up (va_up (va_up M24.1 0 g25) 0 g26) 0 g27) 0 (upd g27 10 x4), M24.2)) H := hP
          have hD : va_D A (mdW cI am (va_up (va_up (va_up (va_up M24.1 0 g25) 0 g26) 0 g27) 0 (upd g27 10 x4), M24.2)) := hD
          generalize eg28 : upd g27 10 x4 = g28 at hR hP hD
          replace hR := bnd_e hR
          refine lv_aload_n hx hb dX4_setPlaces_132 rfl (lv_at hl 2 rfl) ?_
          refine va_get (D := D) (ci := 4) (v := .ref (am 1)) (C := RX4) (T := TX4) (N := 8) hx hb hts hinX4 hown hK hP 0 rfl rfl 0 (by decide) q1 (fun _ h9 => h9) rfl dX4_setPlaces_133 ?_
          refine lv_bipush (v := 11) hx hb dX4_setPlaces_136 (by decide) ?_
          refine lv_iload hx hb dX4_setPlaces_138 (lv_at hl 7 rfl) ?_
          refine va_iast hx hb hK hP hD hS 1 0 rfl rfl (kin_lit (j := 11) (n := 1203) (by decide) (by decide)) dX4_setPlaces_140 (fun H locs hP hD hS => ?_)
          have hP : va_P D vwCl (mdW cI am (va_up (va_up (va_up (va_up (va_up M24.1 0 g25) 0 g26) 0 g27) 0 g28) 0 (upd g28 11 x5), M24.2)) H := hP
          have hD : va_D A (mdW cI am (va_up (va_up (va_up (va_up (va_up M24.1 0 g25) 0 g26) 0 g27) 0 g28) 0 (upd g28 11 x5), M24.2)) := hD
          generalize eg29 : upd g28 11 x5 = g29 at hR hP hD
          replace hR := bnd_e hR
          refine lv_iload hx hb dX4_setPlaces_141 (lv_at hl 0 rfl) ?_
          subst hR
          exact krI hx hb hr hlk hP hD hS dX4_setPlaces_143 rfl rfl
        · rw [if_neg c23] at hR hF
          refine lv_iconst (v := 0) hx hb dX4_setPlaces_84 (by decide) ?_
          subst hR
          exact krI hx hb hr hlk hP hD hS dX4_setPlaces_85 rfl rfl
      · rw [if_neg c21] at hR hF
        refine lv_iload_n hx hb dX4_setPlaces_15 rfl (lv_at hl 3 rfl) ?_
        refine lv_iload hx hb dX4_setPlaces_16 (lv_at hl 4 rfl) ?_
        refine lv_icmp_ge (tgt := 40) hx hb dX4_setPlaces_18 (by decide) (fun c31 => ?_) (fun c31 => ?_)
        · rw [if_pos c31] at hR hF
          refine lv_iconst (v := 0) hx hb dX4_setPlaces_40 (by decide) ?_
          refine lv_istore (lv' := [(6, .int 0), (0, .ref (am 0)), (1, .int x1), (2, .int x2), (3, .int x3), (4, .int x4), (5, .int x5)]) hx hb dX4_setPlaces_41 hl (by decide) rfl (fun ls hl => ?_)
          refine lv_aload_n hx hb dX4_setPlaces_43 rfl (lv_at hl 1 rfl) ?_
          refine lv_iload hx hb dX4_setPlaces_44 (lv_at hl 0 rfl) ?_
          refine lv_if_ne (tgt := 53) hx hb dX4_setPlaces_46 (by decide) (fun c => absurd (by decide) c) (fun _ => ?_)
          refine lv_iconst (v := 1) hx hb dX4_setPlaces_49 (by decide) ?_
          refine lv_goto (tgt := 78) hx hb dX4_setPlaces_50 (by decide) ?_
          refine kcI (ci := 4) (q0 := 0) (As := [.int 1]) (rest := []) E.1 (cx4_refused E am M 1) hX (cwV 1 hts gX4_setPlaces_X4_refused rfl rfl rfl hdX4_refused ⟨Nat.le_of_ble_eq_true rfl, Nat.le_of_ble_eq_true rfl⟩) hKs hK hP hD hS hA _ _ (kw_self _) (kw_self _).symm rfl rfl rfl rfl hl.1 (Nat.le_of_ble_eq_true rfl) dX4_setPlaces_78 ⟨Nat.zero_le _, Nat.zero_le _⟩ (fun H locs hP hD hS => ?_)
          have hP : va_P D vwCl (mdW cI am ((fx4_refused M 1).2)) H := hP
          have hD : va_D A (mdW cI am ((fx4_refused M 1).2)) := hD
          generalize eu32 : fx4_refused M 1 = u32 at hR hF hP hD ⊢
          replace hR := bnd_e hR
          replace hF := bnd_p hF
          refine lv_if_eq (tgt := 86) hx hb dX4_setPlaces_81 (by decide) (fun c33 => ?_) (fun c33 => ?_)
          · rw [if_pos c33] at hR hF
            refine lv_aload_n hx hb dX4_setPlaces_86 rfl (lv_at hl 1 rfl) ?_
            have hs40 := hF
            refine kcV (ci := 4) (q0 := 0) (As := []) (rest := []) E.1 (cx4_saves E am u32.2 hs40) hX (cwV 0 hts gX4_setPlaces_X4_saves rfl rfl rfl hdX4_saves ⟨Nat.le_of_ble_eq_true rfl, Nat.le_of_ble_eq_true rfl⟩) hKs hK hP hD hS hA _ _ (kw_self _) (kw_self _).symm rfl rfl rfl rfl hl.1 (Nat.le_of_ble_eq_true rfl) dX4_setPlaces_87 ⟨Nat.zero_le _, Nat.zero_le _⟩ (fun H locs hP hD hS => ?_)
            have hP : va_P D vwCl (mdW cI am (fx4_saves u32.2)) H := hP
            have hD : va_D A (mdW cI am (fx4_saves u32.2)) := hD
            generalize eM34 : fx4_saves u32.2 = M34 at hR hP hD
            replace hR := bnd_e hR
            refine lv_aload_n hx hb dX4_setPlaces_90 rfl (lv_at hl 1 rfl) ?_
            refine va_get (D := D) (ci := 4) (v := .ref (am 1)) (C := RX4) (T := TX4) (N := 8) hx hb hts hinX4 hown hK hP 0 rfl rfl 0 (by decide) q1 (fun _ h9 => h9) rfl dX4_setPlaces_91 ?_
            refine lv_bipush (v := 11) hx hb dX4_setPlaces_94 (by decide) ?_
            refine va_iald hx hb hK hP 1 0 rfl rfl (kin_lit (j := 11) (n := 1203) (by decide) (by decide)) dX4_setPlaces_96 ?_
            refine kw_top (v := .int ((M34.1 0) 11)) rfl ?_
            refine lv_istore (lv' := [(7, .int ((M34.1 0) 11)), (6, .int 0), (0, .ref (am 0)), (1, .int x1), (2, .int x2), (3, .int x3), (4, .int x4), (5, .int x5)]) hx hb dX4_setPlaces_97 hl (by decide) rfl (fun ls hl => ?_)
            refine lv_aload_n hx hb dX4_setPlaces_99 rfl (lv_at hl 2 rfl) ?_
            refine va_get (D := D) (ci := 4) (v := .ref (am 1)) (C := RX4) (T := TX4) (N := 8) hx hb hts hinX4 hown hK hP 0 rfl rfl 0 (by decide) q1 (fun _ h9 => h9) rfl dX4_setPlaces_100 ?_
            refine lv_bipush (v := 7) hx hb dX4_setPlaces_103 (by decide) ?_
            refine lv_iload_n hx hb dX4_setPlaces_105 rfl (lv_at hl 3 rfl) ?_
            refine va_iast hx hb hK hP hD hS 1 0 rfl rfl (kin_lit (j := 7) (n := 1203) (by decide) (by decide)) dX4_setPlaces_106 (fun H locs hP hD hS => ?_)
            have hP : va_P D vwCl (mdW cI am (va_up M34.1 0 (upd (M34.1 0) 7 x1), M34.2)) H := hP
            have hD : va_D A (mdW cI am (va_up M34.1 0 (upd (M34.1 0) 7 x1), M34.2)) := hD
            generalize eg35 : upd (M34.1 0) 7 x1 = g35 at hR hP hD
            replace hR := bnd_e hR
            refine lv_aload_n hx hb dX4_setPlaces_107 rfl (lv_at hl 2 rfl) ?_
            refine va_get (D := D) (ci := 4) (v := .ref (am 1)) (C := RX4) (T := TX4) (N := 8) hx hb hts hinX4 hown hK hP 0 rfl rfl 0 (by decide) q1 (fun _ h9 => h9) rfl dX4_setPlaces_108 ?_
            refine lv_bipush (v := 8) hx hb dX4_setPlaces_111 (by decide) ?_
            refine lv_iload_n hx hb dX4_setPlaces_113 rfl (lv_at hl 4 rfl) ?_
            refine va_iast hx hb hK hP hD hS 1 0 rfl rfl (kin_lit (j := 8) (n := 1203) (by decide) (by decide)) dX4_setPlaces_114 (fun H locs hP hD hS => ?_)
            have hP : va_P D vwCl (mdW cI am (va_up (va_up M34.1 0 g35) 0 (upd g35 8 x2), M34.2)) H := hP
            have hD : va_D A (mdW cI am (va_up (va_up M34.1 0 g35) 0 (upd g35 8 x2), M34.2)) := hD
            generalize eg36 : upd g35 8 x2 = g36 at hR hP hD
            replace hR := bnd_e hR
            refine lv_aload_n hx hb dX4_setPlaces_115 rfl (lv_at hl 2 rfl) ?_
            refine va_get (D := D) (ci := 4) (v := .ref (am 1)) (C := RX4) (T := TX4) (N := 8) hx hb hts hinX4 hown hK hP 0 rfl rfl 0 (by decide) q1 (fun _ h9 => h9) rfl dX4_setPlaces_116 ?_
            refine lv_bipush (v := 9) hx hb dX4_setPlaces_119 (by decide) ?_
            refine lv_iload_n hx hb dX4_setPlaces_121 rfl (lv_at hl 5 rfl) ?_
            refine va_iast hx hb hK hP hD hS 1 0 rfl rfl (kin_lit (j := 9) (n := 1203) (by decide) (by decide)) dX4_setPlaces_122 (fun H locs hP hD hS => ?_)
            have hP : va_P D vwCl (mdW cI am (va_up (va_up (va_up M34.1 0 g35) 0 g36) 0 (upd g36 9 x3), M34.2)) H := hP
            have hD : va_D A (mdW cI am (va_up (va_up (va_up M34.1 0 g35) 0 g36) 0 (upd g36 9 x3), M34.2)) := hD
            generalize eg37 : upd g36 9 x3 = g37 at hR hP hD
            replace hR := bnd_e hR
            refine lv_aload_n hx hb dX4_setPlaces_123 rfl (lv_at hl 2 rfl) ?_
            refine va_get (D := D) (ci := 4) (v := .ref (am 1)) (C := RX4) (T := TX4) (N := 8) hx hb hts hinX4 hown hK hP 0 rfl rfl 0 (by decide) q1 (fun _ h9 => h9) rfl dX4_setPlaces_124 ?_
            refine lv_bipush (v := 10) hx hb dX4_setPlaces_127 (by decide) ?_
            refine lv_iload hx hb dX4_setPlaces_129 (lv_at hl 6 rfl) ?_
            refine va_iast hx hb hK hP hD hS 1 0 rfl rfl (kin_lit (j := 10) (n := 1203) (by decide) (by decide)) dX4_setPlaces_131 (fun H locs hP hD hS => ?_)
            have hP : va_P D vwCl (mdW cI am (va_up (va_up (va_up (va_up M34.1 0 g35) 0 g36) 0 g37) 0 (upd g37 10 x4), M34.2)) H := hP
            have hD : va_D A (mdW cI am (va_up (va_up (va_up (va_up M34.1 0 g35) 0 g36) 0 g37) 0 (upd g37 10 x4), M34.2)) := hD
            generalize eg38 : upd g37 10 x4 = g38 at hR hP hD
            replace hR := bnd_e hR
            refine lv_aload_n hx hb dX4_setPlaces_132 rfl (lv_at hl 2 rfl) ?_
            refine va_get (D := D) (ci := 4) (v := .ref (am 1)) (C := RX4) (T := TX4) (N := 8) hx hb hts hinX4 hown hK hP 0 rfl rfl 0 (by decide) q1 (fun _ h9 => h9) rfl dX4_setPlaces_133 ?_
            refine lv_bipush (v := 11) hx hb dX4_setPlaces_136 (by decide) ?_
            refine lv_iload hx hb dX4_setPlaces_138 (lv_at hl 7 rfl) ?_
            refine va_iast hx hb hK hP hD hS 1 0 rfl rfl (kin_lit (j := 11) (n := 1203) (by decide) (by decide)) dX4_setPlaces_140 (fun H locs hP hD hS => ?_)
            have hP : va_P D vwCl (mdW cI am (va_up (va_up (va_up (va_up (va_up M34.1 0 g35) 0 g36) 0 g37) 0 g38) 0 (upd g38 11 x5), M34.2)) H := hP
            have hD : va_D A (mdW cI am (va_up (va_up (va_up (va_up (va_up M34.1 0 g35) 0 g36) 0 g37) 0 g38) 0 (upd g38 11 x5), M34.2)) := hD
            generalize eg39 : upd g38 11 x5 = g39 at hR hP hD
            replace hR := bnd_e hR
            refine lv_iload hx hb dX4_setPlaces_141 (lv_at hl 0 rfl) ?_
            subst hR
            exact krI hx hb hr hlk hP hD hS dX4_setPlaces_143 rfl rfl
          · rw [if_neg c33] at hR hF
            refine lv_iconst (v := 0) hx hb dX4_setPlaces_84 (by decide) ?_
            subst hR
            exact krI hx hb hr hlk hP hD hS dX4_setPlaces_85 rfl rfl
        · rw [if_neg c31] at hR hF
          refine lv_iload hx hb dX4_setPlaces_21 (lv_at hl 4 rfl) ?_
          refine lv_iload hx hb dX4_setPlaces_23 (lv_at hl 5 rfl) ?_
          refine lv_icmp_ge (tgt := 40) hx hb dX4_setPlaces_25 (by decide) (fun c41 => ?_) (fun c41 => ?_)
          · rw [if_pos c41] at hR hF
            refine lv_iconst (v := 0) hx hb dX4_setPlaces_40 (by decide) ?_
            refine lv_istore (lv' := [(6, .int 0), (0, .ref (am 0)), (1, .int x1), (2, .int x2), (3, .int x3), (4, .int x4), (5, .int x5)]) hx hb dX4_setPlaces_41 hl (by decide) rfl (fun ls hl => ?_)
            refine lv_aload_n hx hb dX4_setPlaces_43 rfl (lv_at hl 1 rfl) ?_
            refine lv_iload hx hb dX4_setPlaces_44 (lv_at hl 0 rfl) ?_
            refine lv_if_ne (tgt := 53) hx hb dX4_setPlaces_46 (by decide) (fun c => absurd (by decide) c) (fun _ => ?_)
            refine lv_iconst (v := 1) hx hb dX4_setPlaces_49 (by decide) ?_
            refine lv_goto (tgt := 78) hx hb dX4_setPlaces_50 (by decide) ?_
            refine kcI (ci := 4) (q0 := 0) (As := [.int 1]) (rest := []) E.1 (cx4_refused E am M 1) hX (cwV 1 hts gX4_setPlaces_X4_refused rfl rfl rfl hdX4_refused ⟨Nat.le_of_ble_eq_true rfl, Nat.le_of_ble_eq_true rfl⟩) hKs hK hP hD hS hA _ _ (kw_self _) (kw_self _).symm rfl rfl rfl rfl hl.1 (Nat.le_of_ble_eq_true rfl) dX4_setPlaces_78 ⟨Nat.zero_le _, Nat.zero_le _⟩ (fun H locs hP hD hS => ?_)
            have hP : va_P D vwCl (mdW cI am ((fx4_refused M 1).2)) H := hP
            have hD : va_D A (mdW cI am ((fx4_refused M 1).2)) := hD
            generalize eu42 : fx4_refused M 1 = u42 at hR hF hP hD ⊢
            replace hR := bnd_e hR
            replace hF := bnd_p hF
            refine lv_if_eq (tgt := 86) hx hb dX4_setPlaces_81 (by decide) (fun c43 => ?_) (fun c43 => ?_)
            · rw [if_pos c43] at hR hF
              refine lv_aload_n hx hb dX4_setPlaces_86 rfl (lv_at hl 1 rfl) ?_
              have hs50 := hF
              refine kcV (ci := 4) (q0 := 0) (As := []) (rest := []) E.1 (cx4_saves E am u42.2 hs50) hX (cwV 0 hts gX4_setPlaces_X4_saves rfl rfl rfl hdX4_saves ⟨Nat.le_of_ble_eq_true rfl, Nat.le_of_ble_eq_true rfl⟩) hKs hK hP hD hS hA _ _ (kw_self _) (kw_self _).symm rfl rfl rfl rfl hl.1 (Nat.le_of_ble_eq_true rfl) dX4_setPlaces_87 ⟨Nat.zero_le _, Nat.zero_le _⟩ (fun H locs hP hD hS => ?_)
              have hP : va_P D vwCl (mdW cI am (fx4_saves u42.2)) H := hP
              have hD : va_D A (mdW cI am (fx4_saves u42.2)) := hD
              generalize eM44 : fx4_saves u42.2 = M44 at hR hP hD
              replace hR := bnd_e hR
              refine lv_aload_n hx hb dX4_setPlaces_90 rfl (lv_at hl 1 rfl) ?_
              refine va_get (D := D) (ci := 4) (v := .ref (am 1)) (C := RX4) (T := TX4) (N := 8) hx hb hts hinX4 hown hK hP 0 rfl rfl 0 (by decide) q1 (fun _ h9 => h9) rfl dX4_setPlaces_91 ?_
              refine lv_bipush (v := 11) hx hb dX4_setPlaces_94 (by decide) ?_
              refine va_iald hx hb hK hP 1 0 rfl rfl (kin_lit (j := 11) (n := 1203) (by decide) (by decide)) dX4_setPlaces_96 ?_
              refine kw_top (v := .int ((M44.1 0) 11)) rfl ?_
              refine lv_istore (lv' := [(7, .int ((M44.1 0) 11)), (6, .int 0), (0, .ref (am 0)), (1, .int x1), (2, .int x2), (3, .int x3), (4, .int x4), (5, .int x5)]) hx hb dX4_setPlaces_97 hl (by decide) rfl (fun ls hl => ?_)
              refine lv_aload_n hx hb dX4_setPlaces_99 rfl (lv_at hl 2 rfl) ?_
              refine va_get (D := D) (ci := 4) (v := .ref (am 1)) (C := RX4) (T := TX4) (N := 8) hx hb hts hinX4 hown hK hP 0 rfl rfl 0 (by decide) q1 (fun _ h9 => h9) rfl dX4_setPlaces_100 ?_
              refine lv_bipush (v := 7) hx hb dX4_setPlaces_103 (by decide) ?_
              refine lv_iload_n hx hb dX4_setPlaces_105 rfl (lv_at hl 3 rfl) ?_
              refine va_iast hx hb hK hP hD hS 1 0 rfl rfl (kin_lit (j := 7) (n := 1203) (by decide) (by decide)) dX4_setPlaces_106 (fun H locs hP hD hS => ?_)
              have hP : va_P D vwCl (mdW cI am (va_up M44.1 0 (upd (M44.1 0) 7 x1), M44.2)) H := hP
              have hD : va_D A (mdW cI am (va_up M44.1 0 (upd (M44.1 0) 7 x1), M44.2)) := hD
              generalize eg45 : upd (M44.1 0) 7 x1 = g45 at hR hP hD
              replace hR := bnd_e hR
              refine lv_aload_n hx hb dX4_setPlaces_107 rfl (lv_at hl 2 rfl) ?_
              refine va_get (D := D) (ci := 4) (v := .ref (am 1)) (C := RX4) (T := TX4) (N := 8) hx hb hts hinX4 hown hK hP 0 rfl rfl 0 (by decide) q1 (fun _ h9 => h9) rfl dX4_setPlaces_108 ?_
              refine lv_bipush (v := 8) hx hb dX4_setPlaces_111 (by decide) ?_
              refine lv_iload_n hx hb dX4_setPlaces_113 rfl (lv_at hl 4 rfl) ?_
              refine va_iast hx hb hK hP hD hS 1 0 rfl rfl (kin_lit (j := 8) (n := 1203) (by decide) (by decide)) dX4_setPlaces_114 (fun H locs hP hD hS => ?_)
              have hP : va_P D vwCl (mdW cI am (va_up (va_up M44.1 0 g45) 0 (upd g45 8 x2), M44.2)) H := hP
              have hD : va_D A (mdW cI am (va_up (va_up M44.1 0 g45) 0 (upd g45 8 x2), M44.2)) := hD
              generalize eg46 : upd g45 8 x2 = g46 at hR hP hD
              replace hR := bnd_e hR
              refine lv_aload_n hx hb dX4_setPlaces_115 rfl (lv_at hl 2 rfl) ?_
              refine va_get (D := D) (ci := 4) (v := .ref (am 1)) (C := RX4) (T := TX4) (N := 8) hx hb hts hinX4 hown hK hP 0 rfl rfl 0 (by decide) q1 (fun _ h9 => h9) rfl dX4_setPlaces_116 ?_
              refine lv_bipush (v := 9) hx hb dX4_setPlaces_119 (by decide) ?_
              refine lv_iload_n hx hb dX4_setPlaces_121 rfl (lv_at hl 5 rfl) ?_
              refine va_iast hx hb hK hP hD hS 1 0 rfl rfl (kin_lit (j := 9) (n := 1203) (by decide) (by decide)) dX4_setPlaces_122 (fun H locs hP hD hS => ?_)
              have hP : va_P D vwCl (mdW cI am (va_up (va_up (va_up M44.1 0 g45) 0 g46) 0 (upd g46 9 x3), M44.2)) H := hP
              have hD : va_D A (mdW cI am (va_up (va_up (va_up M44.1 0 g45) 0 g46) 0 (upd g46 9 x3), M44.2)) := hD
              generalize eg47 : upd g46 9 x3 = g47 at hR hP hD
              replace hR := bnd_e hR
              refine lv_aload_n hx hb dX4_setPlaces_123 rfl (lv_at hl 2 rfl) ?_
              refine va_get (D := D) (ci := 4) (v := .ref (am 1)) (C := RX4) (T := TX4) (N := 8) hx hb hts hinX4 hown hK hP 0 rfl rfl 0 (by decide) q1 (fun _ h9 => h9) rfl dX4_setPlaces_124 ?_
              refine lv_bipush (v := 10) hx hb dX4_setPlaces_127 (by decide) ?_
              refine lv_iload hx hb dX4_setPlaces_129 (lv_at hl 6 rfl) ?_
              refine va_iast hx hb hK hP hD hS 1 0 rfl rfl (kin_lit (j := 10) (n := 1203) (by decide) (by decide)) dX4_setPlaces_131 (fun H locs hP hD hS => ?_)
              have hP : va_P D vwCl (mdW cI am (va_up (va_up (va_up (va_up M44.1 0 g45) 0 g46) 0 g47) 0 (upd g47 10 x4), M44.2)) H := hP
              have hD : va_D A (mdW cI am (va_up (va_up (va_up (va_up M44.1 0 g45) 0 g46) 0 g47) 0 (upd g47 10 x4), M44.2)) := hD
              generalize eg48 : upd g47 10 x4 = g48 at hR hP hD
              replace hR := bnd_e hR
              refine lv_aload_n hx hb dX4_setPlaces_132 rfl (lv_at hl 2 rfl) ?_
              refine va_get (D := D) (ci := 4) (v := .ref (am 1)) (C := RX4) (T := TX4) (N := 8) hx hb hts hinX4 hown hK hP 0 rfl rfl 0 (by decide) q1 (fun _ h9 => h9) rfl dX4_setPlaces_133 ?_
              refine lv_bipush (v := 11) hx hb dX4_setPlaces_136 (by decide) ?_
              refine lv_iload hx hb dX4_setPlaces_138 (lv_at hl 7 rfl) ?_
              refine va_iast hx hb hK hP hD hS 1 0 rfl rfl (kin_lit (j := 11) (n := 1203) (by decide) (by decide)) dX4_setPlaces_140 (fun H locs hP hD hS => ?_)
              have hP : va_P D vwCl (mdW cI am (va_up (va_up (va_up (va_up (va_up M44.1 0 g45) 0 g46) 0 g47) 0 g48) 0 (upd g48 11 x5), M44.2)) H := hP
              have hD : va_D A (mdW cI am (va_up (va_up (va_up (va_up (va_up M44.1 0 g45) 0 g46) 0 g47) 0 g48) 0 (upd g48 11 x5), M44.2)) := hD
              generalize eg49 : upd g48 11 x5 = g49 at hR hP hD
              replace hR := bnd_e hR
              refine lv_iload hx hb dX4_setPlaces_141 (lv_at hl 0 rfl) ?_
              subst hR
              exact krI hx hb hr hlk hP hD hS dX4_setPlaces_143 rfl rfl
            · rw [if_neg c43] at hR hF
              refine lv_iconst (v := 0) hx hb dX4_setPlaces_84 (by decide) ?_
              subst hR
              exact krI hx hb hr hlk hP hD hS dX4_setPlaces_85 rfl rfl
          · rw [if_neg c41] at hR hF
            refine lv_iload hx hb dX4_setPlaces_28 (lv_at hl 5 rfl) ?_
            refine lv_sipush (v := 1000) hx hb dX4_setPlaces_30 (by decide) ?_
            refine lv_icmp_gt (tgt := 40) hx hb dX4_setPlaces_33 (by decide) (fun c51 => ?_) (fun c51 => ?_)
            · rw [if_pos c51] at hR hF
              refine lv_iconst (v := 0) hx hb dX4_setPlaces_40 (by decide) ?_
              refine lv_istore (lv' := [(6, .int 0), (0, .ref (am 0)), (1, .int x1), (2, .int x2), (3, .int x3), (4, .int x4), (5, .int x5)]) hx hb dX4_setPlaces_41 hl (by decide) rfl (fun ls hl => ?_)
              refine lv_aload_n hx hb dX4_setPlaces_43 rfl (lv_at hl 1 rfl) ?_
              refine lv_iload hx hb dX4_setPlaces_44 (lv_at hl 0 rfl) ?_
              refine lv_if_ne (tgt := 53) hx hb dX4_setPlaces_46 (by decide) (fun c => absurd (by decide) c) (fun _ => ?_)
              refine lv_iconst (v := 1) hx hb dX4_setPlaces_49 (by decide) ?_
              refine lv_goto (tgt := 78) hx hb dX4_setPlaces_50 (by decide) ?_
              refine kcI (ci := 4) (q0 := 0) (As := [.int 1]) (rest := []) E.1 (cx4_refused E am M 1) hX (cwV 1 hts gX4_setPlaces_X4_refused rfl rfl rfl hdX4_refused ⟨Nat.le_of_ble_eq_true rfl, Nat.le_of_ble_eq_true rfl⟩) hKs hK hP hD hS hA _ _ (kw_self _) (kw_self _).symm rfl rfl rfl rfl hl.1 (Nat.le_of_ble_eq_true rfl) dX4_setPlaces_78 ⟨Nat.zero_le _, Nat.zero_le _⟩ (fun H locs hP hD hS => ?_)
              have hP : va_P D vwCl (mdW cI am ((fx4_refused M 1).2)) H := hP
              have hD : va_D A (mdW cI am ((fx4_refused M 1).2)) := hD
              generalize eu52 : fx4_refused M 1 = u52 at hR hF hP hD ⊢
              replace hR := bnd_e hR
              replace hF := bnd_p hF
              refine lv_if_eq (tgt := 86) hx hb dX4_setPlaces_81 (by decide) (fun c53 => ?_) (fun c53 => ?_)
              · rw [if_pos c53] at hR hF
                refine lv_aload_n hx hb dX4_setPlaces_86 rfl (lv_at hl 1 rfl) ?_
                have hs60 := hF
                refine kcV (ci := 4) (q0 := 0) (As := []) (rest := []) E.1 (cx4_saves E am u52.2 hs60) hX (cwV 0 hts gX4_setPlaces_X4_saves rfl rfl rfl hdX4_saves ⟨Nat.le_of_ble_eq_true rfl, Nat.le_of_ble_eq_true rfl⟩) hKs hK hP hD hS hA _ _ (kw_self _) (kw_self _).symm rfl rfl rfl rfl hl.1 (Nat.le_of_ble_eq_true rfl) dX4_setPlaces_87 ⟨Nat.zero_le _, Nat.zero_le _⟩ (fun H locs hP hD hS => ?_)
                have hP : va_P D vwCl (mdW cI am (fx4_saves u52.2)) H := hP
                have hD : va_D A (mdW cI am (fx4_saves u52.2)) := hD
                generalize eM54 : fx4_saves u52.2 = M54 at hR hP hD
                replace hR := bnd_e hR
                refine lv_aload_n hx hb dX4_setPlaces_90 rfl (lv_at hl 1 rfl) ?_
                refine va_get (D := D) (ci := 4) (v := .ref (am 1)) (C := RX4) (T := TX4) (N := 8) hx hb hts hinX4 hown hK hP 0 rfl rfl 0 (by decide) q1 (fun _ h9 => h9) rfl dX4_setPlaces_91 ?_
                refine lv_bipush (v := 11) hx hb dX4_setPlaces_94 (by decide) ?_
                refine va_iald hx hb hK hP 1 0 rfl rfl (kin_lit (j := 11) (n := 1203) (by decide) (by decide)) dX4_setPlaces_96 ?_
                refine kw_top (v := .int ((M54.1 0) 11)) rfl ?_
                refine lv_istore (lv' := [(7, .int ((M54.1 0) 11)), (6, .int 0), (0, .ref (am 0)), (1, .int x1), (2, .int x2), (3, .int x3), (4, .int x4), (5, .int x5)]) hx hb dX4_setPlaces_97 hl (by decide) rfl (fun ls hl => ?_)
                refine lv_aload_n hx hb dX4_setPlaces_99 rfl (lv_at hl 2 rfl) ?_
                refine va_get (D := D) (ci := 4) (v := .ref (am 1)) (C := RX4) (T := TX4) (N := 8) hx hb hts hinX4 hown hK hP 0 rfl rfl 0 (by decide) q1 (fun _ h9 => h9) rfl dX4_setPlaces_100 ?_
                refine lv_bipush (v := 7) hx hb dX4_setPlaces_103 (by decide) ?_
                refine lv_iload_n hx hb dX4_setPlaces_105 rfl (lv_at hl 3 rfl) ?_
                refine va_iast hx hb hK hP hD hS 1 0 rfl rfl (kin_lit (j := 7) (n := 1203) (by decide) (by decide)) dX4_setPlaces_106 (fun H locs hP hD hS => ?_)
                have hP : va_P D vwCl (mdW cI am (va_up M54.1 0 (upd (M54.1 0) 7 x1), M54.2)) H := hP
                have hD : va_D A (mdW cI am (va_up M54.1 0 (upd (M54.1 0) 7 x1), M54.2)) := hD
                generalize eg55 : upd (M54.1 0) 7 x1 = g55 at hR hP hD
                replace hR := bnd_e hR
                refine lv_aload_n hx hb dX4_setPlaces_107 rfl (lv_at hl 2 rfl) ?_
                refine va_get (D := D) (ci := 4) (v := .ref (am 1)) (C := RX4) (T := TX4) (N := 8) hx hb hts hinX4 hown hK hP 0 rfl rfl 0 (by decide) q1 (fun _ h9 => h9) rfl dX4_setPlaces_108 ?_
                refine lv_bipush (v := 8) hx hb dX4_setPlaces_111 (by decide) ?_
                refine lv_iload_n hx hb dX4_setPlaces_113 rfl (lv_at hl 4 rfl) ?_
                refine va_iast hx hb hK hP hD hS 1 0 rfl rfl (kin_lit (j := 8) (n := 1203) (by decide) (by decide)) dX4_setPlaces_114 (fun H locs hP hD hS => ?_)
                have hP : va_P D vwCl (mdW cI am (va_up (va_up M54.1 0 g55) 0 (upd g55 8 x2), M54.2)) H := hP
                have hD : va_D A (mdW cI am (va_up (va_up M54.1 0 g55) 0 (upd g55 8 x2), M54.2)) := hD
                generalize eg56 : upd g55 8 x2 = g56 at hR hP hD
                replace hR := bnd_e hR
                refine lv_aload_n hx hb dX4_setPlaces_115 rfl (lv_at hl 2 rfl) ?_
                refine va_get (D := D) (ci := 4) (v := .ref (am 1)) (C := RX4) (T := TX4) (N := 8) hx hb hts hinX4 hown hK hP 0 rfl rfl 0 (by decide) q1 (fun _ h9 => h9) rfl dX4_setPlaces_116 ?_
                refine lv_bipush (v := 9) hx hb dX4_setPlaces_119 (by decide) ?_
                refine lv_iload_n hx hb dX4_setPlaces_121 rfl (lv_at hl 5 rfl) ?_
                refine va_iast hx hb hK hP hD hS 1 0 rfl rfl (kin_lit (j := 9) (n := 1203) (by decide) (by decide)) dX4_setPlaces_122 (fun H locs hP hD hS => ?_)
                have hP : va_P D vwCl (mdW cI am (va_up (va_up (va_up M54.1 0 g55) 0 g56) 0 (upd g56 9 x3), M54.2)) H := hP
                have hD : va_D A (mdW cI am (va_up (va_up (va_up M54.1 0 g55) 0 g56) 0 (upd g56 9 x3), M54.2)) := hD
                generalize eg57 : upd g56 9 x3 = g57 at hR hP hD
                replace hR := bnd_e hR
                refine lv_aload_n hx hb dX4_setPlaces_123 rfl (lv_at hl 2 rfl) ?_
                refine va_get (D := D) (ci := 4) (v := .ref (am 1)) (C := RX4) (T := TX4) (N := 8) hx hb hts hinX4 hown hK hP 0 rfl rfl 0 (by decide) q1 (fun _ h9 => h9) rfl dX4_setPlaces_124 ?_
                refine lv_bipush (v := 10) hx hb dX4_setPlaces_127 (by decide) ?_
                refine lv_iload hx hb dX4_setPlaces_129 (lv_at hl 6 rfl) ?_
                refine va_iast hx hb hK hP hD hS 1 0 rfl rfl (kin_lit (j := 10) (n := 1203) (by decide) (by decide)) dX4_setPlaces_131 (fun H locs hP hD hS => ?_)
                have hP : va_P D vwCl (mdW cI am (va_up (va_up (va_up (va_up M54.1 0 g55) 0 g56) 0 g57) 0 (upd g57 10 x4), M54.2)) H := hP
                have hD : va_D A (mdW cI am (va_up (va_up (va_up (va_up M54.1 0 g55) 0 g56) 0 g57) 0 (upd g57 10 x4), M54.2)) := hD
                generalize eg58 : upd g57 10 x4 = g58 at hR hP hD
                replace hR := bnd_e hR
                refine lv_aload_n hx hb dX4_setPlaces_132 rfl (lv_at hl 2 rfl) ?_
                refine va_get (D := D) (ci := 4) (v := .ref (am 1)) (C := RX4) (T := TX4) (N := 8) hx hb hts hinX4 hown hK hP 0 rfl rfl 0 (by decide) q1 (fun _ h9 => h9) rfl dX4_setPlaces_133 ?_
                refine lv_bipush (v := 11) hx hb dX4_setPlaces_136 (by decide) ?_
                refine lv_iload hx hb dX4_setPlaces_138 (lv_at hl 7 rfl) ?_
                refine va_iast hx hb hK hP hD hS 1 0 rfl rfl (kin_lit (j := 11) (n := 1203) (by decide) (by decide)) dX4_setPlaces_140 (fun H locs hP hD hS => ?_)
                have hP : va_P D vwCl (mdW cI am (va_up (va_up (va_up (va_up (va_up M54.1 0 g55) 0 g56) 0 g57) 0 g58) 0 (upd g58 11 x5), M54.2)) H := hP
                have hD : va_D A (mdW cI am (va_up (va_up (va_up (va_up (va_up M54.1 0 g55) 0 g56) 0 g57) 0 g58) 0 (upd g58 11 x5), M54.2)) := hD
                generalize eg59 : upd g58 11 x5 = g59 at hR hP hD
                replace hR := bnd_e hR
                refine lv_iload hx hb dX4_setPlaces_141 (lv_at hl 0 rfl) ?_
                subst hR
                exact krI hx hb hr hlk hP hD hS dX4_setPlaces_143 rfl rfl
              · rw [if_neg c53] at hR hF
                refine lv_iconst (v := 0) hx hb dX4_setPlaces_84 (by decide) ?_
                subst hR
                exact krI hx hb hr hlk hP hD hS dX4_setPlaces_85 rfl rfl
            · rw [if_neg c51] at hR hF
              refine lv_iconst (v := 1) hx hb dX4_setPlaces_36 (by decide) ?_
              refine lv_goto (tgt := 41) hx hb dX4_setPlaces_37 (by decide) ?_
              refine lv_istore (lv' := [(6, .int 1), (0, .ref (am 0)), (1, .int x1), (2, .int x2), (3, .int x3), (4, .int x4), (5, .int x5)]) hx hb dX4_setPlaces_41 hl (by decide) rfl (fun ls hl => ?_)
              refine lv_aload_n hx hb dX4_setPlaces_43 rfl (lv_at hl 1 rfl) ?_
              refine lv_iload hx hb dX4_setPlaces_44 (lv_at hl 0 rfl) ?_
              refine lv_if_ne (tgt := 53) hx hb dX4_setPlaces_46 (by decide) (fun _ => ?_) (fun c => absurd c (by decide))
              refine lv_aload_n hx hb dX4_setPlaces_53 rfl (lv_at hl 1 rfl) ?_
              refine va_get (D := D) (ci := 4) (v := .ref (am 1)) (C := RX4) (T := TX4) (N := 8) hx hb hts hinX4 hown hK hP 0 rfl rfl 0 (by decide) q1 (fun _ h9 => h9) rfl dX4_setPlaces_54 ?_
              refine lv_bipush (v := 36) hx hb dX4_setPlaces_57 (by decide) ?_
              refine va_iald hx hb hK hP 1 0 rfl rfl (kin_lit (j := 36) (n := 1203) (by decide) (by decide)) dX4_setPlaces_59 ?_
              refine kw_top (v := .int ((M.1 0) 36)) rfl ?_
              refine lv_if_gt (tgt := 73) hx hb dX4_setPlaces_60 (by decide) (fun c61 => ?_) (fun c61 => ?_)
              · rw [if_pos c61] at hR hF
                refine lv_iconst (v := 2) hx hb dX4_setPlaces_73 (by decide) ?_
                refine lv_goto (tgt := 78) hx hb dX4_setPlaces_74 (by decide) ?_
                refine kcI (ci := 4) (q0 := 0) (As := [.int 2]) (rest := []) E.1 (cx4_refused E am M 2) hX (cwV 1 hts gX4_setPlaces_X4_refused rfl rfl rfl hdX4_refused ⟨Nat.le_of_ble_eq_true rfl, Nat.le_of_ble_eq_true rfl⟩) hKs hK hP hD hS hA _ _ (kw_self _) (kw_self _).symm rfl rfl rfl rfl hl.1 (Nat.le_of_ble_eq_true rfl) dX4_setPlaces_78 ⟨Nat.zero_le _, Nat.zero_le _⟩ (fun H locs hP hD hS => ?_)
                have hP : va_P D vwCl (mdW cI am ((fx4_refused M 2).2)) H := hP
                have hD : va_D A (mdW cI am ((fx4_refused M 2).2)) := hD
                generalize eu62 : fx4_refused M 2 = u62 at hR hF hP hD ⊢
                replace hR := bnd_e hR
                replace hF := bnd_p hF
                refine lv_if_eq (tgt := 86) hx hb dX4_setPlaces_81 (by decide) (fun c63 => ?_) (fun c63 => ?_)
                · rw [if_pos c63] at hR hF
                  refine lv_aload_n hx hb dX4_setPlaces_86 rfl (lv_at hl 1 rfl) ?_
                  have hs70 := hF
                  refine kcV (ci := 4) (q0 := 0) (As := []) (rest := []) E.1 (cx4_saves E am u62.2 hs70) hX (cwV 0 hts gX4_setPlaces_X4_saves rfl rfl rfl hdX4_saves ⟨Nat.le_of_ble_eq_true rfl, Nat.le_of_ble_eq_true rfl⟩) hKs hK hP hD hS hA _ _ (kw_self _) (kw_self _).symm rfl rfl rfl rfl hl.1 (Nat.le_of_ble_eq_true rfl) dX4_setPlaces_87 ⟨Nat.zero_le _, Nat.zero_le _⟩ (fun H locs hP hD hS => ?_)
                  have hP : va_P D vwCl (mdW cI am (fx4_saves u62.2)) H := hP
                  have hD : va_D A (mdW cI am (fx4_saves u62.2)) := hD
                  generalize eM64 : fx4_saves u62.2 = M64 at hR hP hD
                  replace hR := bnd_e hR
                  refine lv_aload_n hx hb dX4_setPlaces_90 rfl (lv_at hl 1 rfl) ?_
                  refine va_get (D := D) (ci := 4) (v := .ref (am 1)) (C := RX4) (T := TX4) (N := 8) hx hb hts hinX4 hown hK hP 0 rfl rfl 0 (by decide) q1 (fun _ h9 => h9) rfl dX4_setPlaces_91 ?_
                  refine lv_bipush (v := 11) hx hb dX4_setPlaces_94 (by decide) ?_
                  refine va_iald hx hb hK hP 1 0 rfl rfl (kin_lit (j := 11) (n := 1203) (by decide) (by decide)) dX4_setPlaces_96 ?_
                  refine kw_top (v := .int ((M64.1 0) 11)) rfl ?_
                  refine lv_istore (lv' := [(7, .int ((M64.1 0) 11)), (6, .int 1), (0, .ref (am 0)), (1, .int x1), (2, .int x2), (3, .int x3), (4, .int x4), (5, .int x5)]) hx hb dX4_setPlaces_97 hl (by decide) rfl (fun ls hl => ?_)
                  refine lv_aload_n hx hb dX4_setPlaces_99 rfl (lv_at hl 2 rfl) ?_
                  refine va_get (D := D) (ci := 4) (v := .ref (am 1)) (C := RX4) (T := TX4) (N := 8) hx hb hts hinX4 hown hK hP 0 rfl rfl 0 (by decide) q1 (fun _ h9 => h9) rfl dX4_setPlaces_100 ?_
                  refine lv_bipush (v := 7) hx hb dX4_setPlaces_103 (by decide) ?_
                  refine lv_iload_n hx hb dX4_setPlaces_105 rfl (lv_at hl 3 rfl) ?_
                  refine va_iast hx hb hK hP hD hS 1 0 rfl rfl (kin_lit (j := 7) (n := 1203) (by decide) (by decide)) dX4_setPlaces_106 (fun H locs hP hD hS => ?_)
                  have hP : va_P D vwCl (mdW cI am (va_up M64.1 0 (upd (M64.1 0) 7 x1), M64.2)) H := hP
                  have hD : va_D A (mdW cI am (va_up M64.1 0 (upd (M64.1 0) 7 x1), M64.2)) := hD
                  generalize eg65 : upd (M64.1 0) 7 x1 = g65 at hR hP hD
                  replace hR := bnd_e hR
                  refine lv_aload_n hx hb dX4_setPlaces_107 rfl (lv_at hl 2 rfl) ?_
                  refine va_get (D := D) (ci := 4) (v := .ref (am 1)) (C := RX4) (T := TX4) (N := 8) hx hb hts hinX4 hown hK hP 0 rfl rfl 0 (by decide) q1 (fun _ h9 => h9) rfl dX4_setPlaces_108 ?_
                  refine lv_bipush (v := 8) hx hb dX4_setPlaces_111 (by decide) ?_
                  refine lv_iload_n hx hb dX4_setPlaces_113 rfl (lv_at hl 4 rfl) ?_
                  refine va_iast hx hb hK hP hD hS 1 0 rfl rfl (kin_lit (j := 8) (n := 1203) (by decide) (by decide)) dX4_setPlaces_114 (fun H locs hP hD hS => ?_)
                  have hP : va_P D vwCl (mdW cI am (va_up (va_up M64.1 0 g65) 0 (upd g65 8 x2), M64.2)) H := hP
                  have hD : va_D A (mdW cI am (va_up (va_up M64.1 0 g65) 0 (upd g65 8 x2), M64.2)) := hD
                  generalize eg66 : upd g65 8 x2 = g66 at hR hP hD
                  replace hR := bnd_e hR
                  refine lv_aload_n hx hb dX4_setPlaces_115 rfl (lv_at hl 2 rfl) ?_
                  refine va_get (D := D) (ci := 4) (v := .ref (am 1)) (C := RX4) (T := TX4) (N := 8) hx hb hts hinX4 hown hK hP 0 rfl rfl 0 (by decide) q1 (fun _ h9 => h9) rfl dX4_setPlaces_116 ?_
                  refine lv_bipush (v := 9) hx hb dX4_setPlaces_119 (by decide) ?_
                  refine lv_iload_n hx hb dX4_setPlaces_121 rfl (lv_at hl 5 rfl) ?_
                  refine va_iast hx hb hK hP hD hS 1 0 rfl rfl (kin_lit (j := 9) (n := 1203) (by decide) (by decide)) dX4_setPlaces_122 (fun H locs hP hD hS => ?_)
                  have hP : va_P D vwCl (mdW cI am (va_up (va_up (va_up M64.1 0 g65) 0 g66) 0 (upd g66 9 x3), M64.2)) H := hP
                  have hD : va_D A (mdW cI am (va_up (va_up (va_up M64.1 0 g65) 0 g66) 0 (upd g66 9 x3), M64.2)) := hD
                  generalize eg67 : upd g66 9 x3 = g67 at hR hP hD
                  replace hR := bnd_e hR
                  refine lv_aload_n hx hb dX4_setPlaces_123 rfl (lv_at hl 2 rfl) ?_
                  refine va_get (D := D) (ci := 4) (v := .ref (am 1)) (C := RX4) (T := TX4) (N := 8) hx hb hts hinX4 hown hK hP 0 rfl rfl 0 (by decide) q1 (fun _ h9 => h9) rfl dX4_setPlaces_124 ?_
                  refine lv_bipush (v := 10) hx hb dX4_setPlaces_127 (by decide) ?_
                  refine lv_iload hx hb dX4_setPlaces_129 (lv_at hl 6 rfl) ?_
                  refine va_iast hx hb hK hP hD hS 1 0 rfl rfl (kin_lit (j := 10) (n := 1203) (by decide) (by decide)) dX4_setPlaces_131 (fun H locs hP hD hS => ?_)
                  have hP : va_P D vwCl (mdW cI am (va_up (va_up (va_up (va_up M64.1 0 g65) 0 g66) 0 g67) 0 (upd g67 10 x4), M64.2)) H := hP
                  have hD : va_D A (mdW cI am (va_up (va_up (va_up (va_up M64.1 0 g65) 0 g66) 0 g67) 0 (upd g67 10 x4), M64.2)) := hD
                  generalize eg68 : upd g67 10 x4 = g68 at hR hP hD
                  replace hR := bnd_e hR
                  refine lv_aload_n hx hb dX4_setPlaces_132 rfl (lv_at hl 2 rfl) ?_
                  refine va_get (D := D) (ci := 4) (v := .ref (am 1)) (C := RX4) (T := TX4) (N := 8) hx hb hts hinX4 hown hK hP 0 rfl rfl 0 (by decide) q1 (fun _ h9 => h9) rfl dX4_setPlaces_133 ?_
                  refine lv_bipush (v := 11) hx hb dX4_setPlaces_136 (by decide) ?_
                  refine lv_iload hx hb dX4_setPlaces_138 (lv_at hl 7 rfl) ?_
                  refine va_iast hx hb hK hP hD hS 1 0 rfl rfl (kin_lit (j := 11) (n := 1203) (by decide) (by decide)) dX4_setPlaces_140 (fun H locs hP hD hS => ?_)
                  have hP : va_P D vwCl (mdW cI am (va_up (va_up (va_up (va_up (va_up M64.1 0 g65) 0 g66) 0 g67) 0 g68) 0 (upd g68 11 x5), M64.2)) H := hP
                  have hD : va_D A (mdW cI am (va_up (va_up (va_up (va_up (va_up M64.1 0 g65) 0 g66) 0 g67) 0 g68) 0 (upd g68 11 x5), M64.2)) := hD
                  generalize eg69 : upd g68 11 x5 = g69 at hR hP hD
                  replace hR := bnd_e hR
                  refine lv_iload hx hb dX4_setPlaces_141 (lv_at hl 0 rfl) ?_
                  subst hR
                  exact krI hx hb hr hlk hP hD hS dX4_setPlaces_143 rfl rfl
                · rw [if_neg c63] at hR hF
                  refine lv_iconst (v := 0) hx hb dX4_setPlaces_84 (by decide) ?_
                  subst hR
                  exact krI hx hb hr hlk hP hD hS dX4_setPlaces_85 rfl rfl
              · rw [if_neg c61] at hR hF
                refine lv_aload_n hx hb dX4_setPlaces_63 rfl (lv_at hl 1 rfl) ?_
                refine va_get (D := D) (ci := 4) (v := .ref (am 1)) (C := RX4) (T := TX4) (N := 8) hx hb hts hinX4 hown hK hP 0 rfl rfl 0 (by decide) q1 (fun _ h9 => h9) rfl dX4_setPlaces_64 ?_
                refine lv_bipush (v := 117) hx hb dX4_setPlaces_67 (by decide) ?_
                refine va_iald hx hb hK hP 1 0 rfl rfl (kin_lit (j := 117) (n := 1203) (by decide) (by decide)) dX4_setPlaces_69 ?_
                refine kw_top (v := .int ((M.1 0) 117)) rfl ?_
                refine lv_if_le (tgt := 77) hx hb dX4_setPlaces_70 (by decide) (fun c71 => ?_) (fun c71 => ?_)
                · rw [if_pos c71] at hR hF
                  refine lv_iconst (v := 0) hx hb dX4_setPlaces_77 (by decide) ?_
                  refine kcI (ci := 4) (q0 := 0) (As := [.int 0]) (rest := []) E.1 (cx4_refused E am M 0) hX (cwV 1 hts gX4_setPlaces_X4_refused rfl rfl rfl hdX4_refused ⟨Nat.le_of_ble_eq_true rfl, Nat.le_of_ble_eq_true rfl⟩) hKs hK hP hD hS hA _ _ (kw_self _) (kw_self _).symm rfl rfl rfl rfl hl.1 (Nat.le_of_ble_eq_true rfl) dX4_setPlaces_78 ⟨Nat.zero_le _, Nat.zero_le _⟩ (fun H locs hP hD hS => ?_)
                  have hP : va_P D vwCl (mdW cI am ((fx4_refused M 0).2)) H := hP
                  have hD : va_D A (mdW cI am ((fx4_refused M 0).2)) := hD
                  generalize eu72 : fx4_refused M 0 = u72 at hR hF hP hD ⊢
                  replace hR := bnd_e hR
                  replace hF := bnd_p hF
                  refine lv_if_eq (tgt := 86) hx hb dX4_setPlaces_81 (by decide) (fun c73 => ?_) (fun c73 => ?_)
                  · rw [if_pos c73] at hR hF
                    refine lv_aload_n hx hb dX4_setPlaces_86 rfl (lv_at hl 1 rfl) ?_
                    have hs80 := hF
                    refine kcV (ci := 4) (q0 := 0) (As := []) (rest := []) E.1 (cx4_saves E am u72.2 hs80) hX (cwV 0 hts gX4_setPlaces_X4_saves rfl rfl rfl hdX4_saves ⟨Nat.le_of_ble_eq_true rfl, Nat.le_of_ble_eq_true rfl⟩) hKs hK hP hD hS hA _ _ (kw_self _) (kw_self _).symm rfl rfl rfl rfl hl.1 (Nat.le_of_ble_eq_true rfl) dX4_setPlaces_87 ⟨Nat.zero_le _, Nat.zero_le _⟩ (fun H locs hP hD hS => ?_)
                    have hP : va_P D vwCl (mdW cI am (fx4_saves u72.2)) H := hP
                    have hD : va_D A (mdW cI am (fx4_saves u72.2)) := hD
                    generalize eM74 : fx4_saves u72.2 = M74 at hR hP hD
                    replace hR := bnd_e hR
                    refine lv_aload_n hx hb dX4_setPlaces_90 rfl (lv_at hl 1 rfl) ?_
                    refine va_get (D := D) (ci := 4) (v := .ref (am 1)) (C := RX4) (T := TX4) (N := 8) hx hb hts hinX4 hown hK hP 0 rfl rfl 0 (by decide) q1 (fun _ h9 => h9) rfl dX4_setPlaces_91 ?_
                    refine lv_bipush (v := 11) hx hb dX4_setPlaces_94 (by decide) ?_
                    refine va_iald hx hb hK hP 1 0 rfl rfl (kin_lit (j := 11) (n := 1203) (by decide) (by decide)) dX4_setPlaces_96 ?_
                    refine kw_top (v := .int ((M74.1 0) 11)) rfl ?_
                    refine lv_istore (lv' := [(7, .int ((M74.1 0) 11)), (6, .int 1), (0, .ref (am 0)), (1, .int x1), (2, .int x2), (3, .int x3), (4, .int x4), (5, .int x5)]) hx hb dX4_setPlaces_97 hl (by decide) rfl (fun ls hl => ?_)
                    refine lv_aload_n hx hb dX4_setPlaces_99 rfl (lv_at hl 2 rfl) ?_
                    refine va_get (D := D) (ci := 4) (v := .ref (am 1)) (C := RX4) (T := TX4) (N := 8) hx hb hts hinX4 hown hK hP 0 rfl rfl 0 (by decide) q1 (fun _ h9 => h9) rfl dX4_setPlaces_100 ?_
                    refine lv_bipush (v := 7) hx hb dX4_setPlaces_103 (by decide) ?_
                    refine lv_iload_n hx hb dX4_setPlaces_105 rfl (lv_at hl 3 rfl) ?_
                    refine va_iast hx hb hK hP hD hS 1 0 rfl rfl (kin_lit (j := 7) (n := 1203) (by decide) (by decide)) dX4_setPlaces_106 (fun H locs hP hD hS => ?_)
                    have hP : va_P D vwCl (mdW cI am (va_up M74.1 0 (upd (M74.1 0) 7 x1), M74.2)) H := hP
                    have hD : va_D A (mdW cI am (va_up M74.1 0 (upd (M74.1 0) 7 x1), M74.2)) := hD
                    generalize eg75 : upd (M74.1 0) 7 x1 = g75 at hR hP hD
                    replace hR := bnd_e hR
                    refine lv_aload_n hx hb dX4_setPlaces_107 rfl (lv_at hl 2 rfl) ?_
                    refine va_get (D := D) (ci := 4) (v := .ref (am 1)) (C := RX4) (T := TX4) (N := 8) hx hb hts hinX4 hown hK hP 0 rfl rfl 0 (by decide) q1 (fun _ h9 => h9) rfl dX4_setPlaces_108 ?_
                    refine lv_bipush (v := 8) hx hb dX4_setPlaces_111 (by decide) ?_
                    refine lv_iload_n hx hb dX4_setPlaces_113 rfl (lv_at hl 4 rfl) ?_
                    refine va_iast hx hb hK hP hD hS 1 0 rfl rfl (kin_lit (j := 8) (n := 1203) (by decide) (by decide)) dX4_setPlaces_114 (fun H locs hP hD hS => ?_)
                    have hP : va_P D vwCl (mdW cI am (va_up (va_up M74.1 0 g75) 0 (upd g75 8 x2), M74.2)) H := hP
                    have hD : va_D A (mdW cI am (va_up (va_up M74.1 0 g75) 0 (upd g75 8 x2), M74.2)) := hD
                    generalize eg76 : upd g75 8 x2 = g76 at hR hP hD
                    replace hR := bnd_e hR
                    refine lv_aload_n hx hb dX4_setPlaces_115 rfl (lv_at hl 2 rfl) ?_
                    refine va_get (D := D) (ci := 4) (v := .ref (am 1)) (C := RX4) (T := TX4) (N := 8) hx hb hts hinX4 hown hK hP 0 rfl rfl 0 (by decide) q1 (fun _ h9 => h9) rfl dX4_setPlaces_116 ?_
                    refine lv_bipush (v := 9) hx hb dX4_setPlaces_119 (by decide) ?_
                    refine lv_iload_n hx hb dX4_setPlaces_121 rfl (lv_at hl 5 rfl) ?_
                    refine va_iast hx hb hK hP hD hS 1 0 rfl rfl (kin_lit (j := 9) (n := 1203) (by decide) (by decide)) dX4_setPlaces_122 (fun H locs hP hD hS => ?_)
                    have hP : va_P D vwCl (mdW cI am (va_up (va_up (va_up M74.1 0 g75) 0 g76) 0 (upd g76 9 x3), M74.2)) H := hP
                    have hD : va_D A (mdW cI am (va_up (va_up (va_up M74.1 0 g75) 0 g76) 0 (upd g76 9 x3), M74.2)) := hD
                    generalize eg77 : upd g76 9 x3 = g77 at hR hP hD
                    replace hR := bnd_e hR
                    refine lv_aload_n hx hb dX4_setPlaces_123 rfl (lv_at hl 2 rfl) ?_
                    refine va_get (D := D) (ci := 4) (v := .ref (am 1)) (C := RX4) (T := TX4) (N := 8) hx hb hts hinX4 hown hK hP 0 rfl rfl 0 (by decide) q1 (fun _ h9 => h9) rfl dX4_setPlaces_124 ?_
                    refine lv_bipush (v := 10) hx hb dX4_setPlaces_127 (by decide) ?_
                    refine lv_iload hx hb dX4_setPlaces_129 (lv_at hl 6 rfl) ?_
                    refine va_iast hx hb hK hP hD hS 1 0 rfl rfl (kin_lit (j := 10) (n := 1203) (by decide) (by decide)) dX4_setPlaces_131 (fun H locs hP hD hS => ?_)
                    have hP : va_P D vwCl (mdW cI am (va_up (va_up (va_up (va_up M74.1 0 g75) 0 g76) 0 g77) 0 (upd g77 10 x4), M74.2)) H := hP
                    have hD : va_D A (mdW cI am (va_up (va_up (va_up (va_up M74.1 0 g75) 0 g76) 0 g77) 0 (upd g77 10 x4), M74.2)) := hD
                    generalize eg78 : upd g77 10 x4 = g78 at hR hP hD
                    replace hR := bnd_e hR
                    refine lv_aload_n hx hb dX4_setPlaces_132 rfl (lv_at hl 2 rfl) ?_
                    refine va_get (D := D) (ci := 4) (v := .ref (am 1)) (C := RX4) (T := TX4) (N := 8) hx hb hts hinX4 hown hK hP 0 rfl rfl 0 (by decide) q1 (fun _ h9 => h9) rfl dX4_setPlaces_133 ?_
                    refine lv_bipush (v := 11) hx hb dX4_setPlaces_136 (by decide) ?_
                    refine lv_iload hx hb dX4_setPlaces_138 (lv_at hl 7 rfl) ?_
                    refine va_iast hx hb hK hP hD hS 1 0 rfl rfl (kin_lit (j := 11) (n := 1203) (by decide) (by decide)) dX4_setPlaces_140 (fun H locs hP hD hS => ?_)
                    have hP : va_P D vwCl (mdW cI am (va_up (va_up (va_up (va_up (va_up M74.1 0 g75) 0 g76) 0 g77) 0 g78) 0 (upd g78 11 x5), M74.2)) H := hP
                    have hD : va_D A (mdW cI am (va_up (va_up (va_up (va_up (va_up M74.1 0 g75) 0 g76) 0 g77) 0 g78) 0 (upd g78 11 x5), M74.2)) := hD
                    generalize eg79 : upd g78 11 x5 = g79 at hR hP hD
                    replace hR := bnd_e hR
                    refine lv_iload hx hb dX4_setPlaces_141 (lv_at hl 0 rfl) ?_
                    subst hR
                    exact krI hx hb hr hlk hP hD hS dX4_setPlaces_143 rfl rfl
                  · rw [if_neg c73] at hR hF
                    refine lv_iconst (v := 0) hx hb dX4_setPlaces_84 (by decide) ?_
                    subst hR
                    exact krI hx hb hr hlk hP hD hS dX4_setPlaces_85 rfl rfl
                · rw [if_neg c71] at hR hF
                  refine lv_iconst (v := 2) hx hb dX4_setPlaces_73 (by decide) ?_
                  refine lv_goto (tgt := 78) hx hb dX4_setPlaces_74 (by decide) ?_
                  refine kcI (ci := 4) (q0 := 0) (As := [.int 2]) (rest := []) E.1 (cx4_refused E am M 2) hX (cwV 1 hts gX4_setPlaces_X4_refused rfl rfl rfl hdX4_refused ⟨Nat.le_of_ble_eq_true rfl, Nat.le_of_ble_eq_true rfl⟩) hKs hK hP hD hS hA _ _ (kw_self _) (kw_self _).symm rfl rfl rfl rfl hl.1 (Nat.le_of_ble_eq_true rfl) dX4_setPlaces_78 ⟨Nat.zero_le _, Nat.zero_le _⟩ (fun H locs hP hD hS => ?_)
                  have hP : va_P D vwCl (mdW cI am ((fx4_refused M 2).2)) H := hP
                  have hD : va_D A (mdW cI am ((fx4_refused M 2).2)) := hD
                  generalize eu81 : fx4_refused M 2 = u81 at hR hF hP hD ⊢
                  replace hR := bnd_e hR
                  replace hF := bnd_p hF
                  refine lv_if_eq (tgt := 86) hx hb dX4_setPlaces_81 (by decide) (fun c82 => ?_) (fun c82 => ?_)
                  · rw [if_pos c82] at hR hF
                    refine lv_aload_n hx hb dX4_setPlaces_86 rfl (lv_at hl 1 rfl) ?_
                    have hs89 := hF
                    refine kcV (ci := 4) (q0 := 0) (As := []) (rest := []) E.1 (cx4_saves E am u81.2 hs89) hX (cwV 0 hts gX4_setPlaces_X4_saves rfl rfl rfl hdX4_saves ⟨Nat.le_of_ble_eq_true rfl, Nat.le_of_ble_eq_true rfl⟩) hKs hK hP hD hS hA _ _ (kw_self _) (kw_self _).symm rfl rfl rfl rfl hl.1 (Nat.le_of_ble_eq_true rfl) dX4_setPlaces_87 ⟨Nat.zero_le _, Nat.zero_le _⟩ (fun H locs hP hD hS => ?_)
                    have hP : va_P D vwCl (mdW cI am (fx4_saves u81.2)) H := hP
                    have hD : va_D A (mdW cI am (fx4_saves u81.2)) := hD
                    generalize eM83 : fx4_saves u81.2 = M83 at hR hP hD
                    replace hR := bnd_e hR
                    refine lv_aload_n hx hb dX4_setPlaces_90 rfl (lv_at hl 1 rfl) ?_
                    refine va_get (D := D) (ci := 4) (v := .ref (am 1)) (C := RX4) (T := TX4) (N := 8) hx hb hts hinX4 hown hK hP 0 rfl rfl 0 (by decide) q1 (fun _ h9 => h9) rfl dX4_setPlaces_91 ?_
                    refine lv_bipush (v := 11) hx hb dX4_setPlaces_94 (by decide) ?_
                    refine va_iald hx hb hK hP 1 0 rfl rfl (kin_lit (j := 11) (n := 1203) (by decide) (by decide)) dX4_setPlaces_96 ?_
                    refine kw_top (v := .int ((M83.1 0) 11)) rfl ?_
                    refine lv_istore (lv' := [(7, .int ((M83.1 0) 11)), (6, .int 1), (0, .ref (am 0)), (1, .int x1), (2, .int x2), (3, .int x3), (4, .int x4), (5, .int x5)]) hx hb dX4_setPlaces_97 hl (by decide) rfl (fun ls hl => ?_)
                    refine lv_aload_n hx hb dX4_setPlaces_99 rfl (lv_at hl 2 rfl) ?_
                    refine va_get (D := D) (ci := 4) (v := .ref (am 1)) (C := RX4) (T := TX4) (N := 8) hx hb hts hinX4 hown hK hP 0 rfl rfl 0 (by decide) q1 (fun _ h9 => h9) rfl dX4_setPlaces_100 ?_
                    refine lv_bipush (v := 7) hx hb dX4_setPlaces_103 (by decide) ?_
                    refine lv_iload_n hx hb dX4_setPlaces_105 rfl (lv_at hl 3 rfl) ?_
                    refine va_iast hx hb hK hP hD hS 1 0 rfl rfl (kin_lit (j := 7) (n := 1203) (by decide) (by decide)) dX4_setPlaces_106 (fun H locs hP hD hS => ?_)
                    have hP : va_P D vwCl (mdW cI am (va_up M83.1 0 (upd (M83.1 0) 7 x1), M83.2)) H := hP
                    have hD : va_D A (mdW cI am (va_up M83.1 0 (upd (M83.1 0) 7 x1), M83.2)) := hD
                    generalize eg84 : upd (M83.1 0) 7 x1 = g84 at hR hP hD
                    replace hR := bnd_e hR
                    refine lv_aload_n hx hb dX4_setPlaces_107 rfl (lv_at hl 2 rfl) ?_
                    refine va_get (D := D) (ci := 4) (v := .ref (am 1)) (C := RX4) (T := TX4) (N := 8) hx hb hts hinX4 hown hK hP 0 rfl rfl 0 (by decide) q1 (fun _ h9 => h9) rfl dX4_setPlaces_108 ?_
                    refine lv_bipush (v := 8) hx hb dX4_setPlaces_111 (by decide) ?_
                    refine lv_iload_n hx hb dX4_setPlaces_113 rfl (lv_at hl 4 rfl) ?_
                    refine va_iast hx hb hK hP hD hS 1 0 rfl rfl (kin_lit (j := 8) (n := 1203) (by decide) (by decide)) dX4_setPlaces_114 (fun H locs hP hD hS => ?_)
                    have hP : va_P D vwCl (mdW cI am (va_up (va_up M83.1 0 g84) 0 (upd g84 8 x2), M83.2)) H := hP
                    have hD : va_D A (mdW cI am (va_up (va_up M83.1 0 g84) 0 (upd g84 8 x2), M83.2)) := hD
                    generalize eg85 : upd g84 8 x2 = g85 at hR hP hD
                    replace hR := bnd_e hR
                    refine lv_aload_n hx hb dX4_setPlaces_115 rfl (lv_at hl 2 rfl) ?_
                    refine va_get (D := D) (ci := 4) (v := .ref (am 1)) (C := RX4) (T := TX4) (N := 8) hx hb hts hinX4 hown hK hP 0 rfl rfl 0 (by decide) q1 (fun _ h9 => h9) rfl dX4_setPlaces_116 ?_
                    refine lv_bipush (v := 9) hx hb dX4_setPlaces_119 (by decide) ?_
                    refine lv_iload_n hx hb dX4_setPlaces_121 rfl (lv_at hl 5 rfl) ?_
                    refine va_iast hx hb hK hP hD hS 1 0 rfl rfl (kin_lit (j := 9) (n := 1203) (by decide) (by decide)) dX4_setPlaces_122 (fun H locs hP hD hS => ?_)
                    have hP : va_P D vwCl (mdW cI am (va_up (va_up (va_up M83.1 0 g84) 0 g85) 0 (upd g85 9 x3), M83.2)) H := hP
                    have hD : va_D A (mdW cI am (va_up (va_up (va_up M83.1 0 g84) 0 g85) 0 (upd g85 9 x3), M83.2)) := hD
                    generalize eg86 : upd g85 9 x3 = g86 at hR hP hD
                    replace hR := bnd_e hR
                    refine lv_aload_n hx hb dX4_setPlaces_123 rfl (lv_at hl 2 rfl) ?_
                    refine va_get (D := D) (ci := 4) (v := .ref (am 1)) (C := RX4) (T := TX4) (N := 8) hx hb hts hinX4 hown hK hP 0 rfl rfl 0 (by decide) q1 (fun _ h9 => h9) rfl dX4_setPlaces_124 ?_
                    refine lv_bipush (v := 10) hx hb dX4_setPlaces_127 (by decide) ?_
                    refine lv_iload hx hb dX4_setPlaces_129 (lv_at hl 6 rfl) ?_
                    refine va_iast hx hb hK hP hD hS 1 0 rfl rfl (kin_lit (j := 10) (n := 1203) (by decide) (by decide)) dX4_setPlaces_131 (fun H locs hP hD hS => ?_)
                    have hP : va_P D vwCl (mdW cI am (va_up (va_up (va_up (va_up M83.1 0 g84) 0 g85) 0 g86) 0 (upd g86 10 x4), M83.2)) H := hP
                    have hD : va_D A (mdW cI am (va_up (va_up (va_up (va_up M83.1 0 g84) 0 g85) 0 g86) 0 (upd g86 10 x4), M83.2)) := hD
                    generalize eg87 : upd g86 10 x4 = g87 at hR hP hD
                    replace hR := bnd_e hR
                    refine lv_aload_n hx hb dX4_setPlaces_132 rfl (lv_at hl 2 rfl) ?_
                    refine va_get (D := D) (ci := 4) (v := .ref (am 1)) (C := RX4) (T := TX4) (N := 8) hx hb hts hinX4 hown hK hP 0 rfl rfl 0 (by decide) q1 (fun _ h9 => h9) rfl dX4_setPlaces_133 ?_
                    refine lv_bipush (v := 11) hx hb dX4_setPlaces_136 (by decide) ?_
                    refine lv_iload hx hb dX4_setPlaces_138 (lv_at hl 7 rfl) ?_
                    refine va_iast hx hb hK hP hD hS 1 0 rfl rfl (kin_lit (j := 11) (n := 1203) (by decide) (by decide)) dX4_setPlaces_140 (fun H locs hP hD hS => ?_)
                    have hP : va_P D vwCl (mdW cI am (va_up (va_up (va_up (va_up (va_up M83.1 0 g84) 0 g85) 0 g86) 0 g87) 0 (upd g87 11 x5), M83.2)) H := hP
                    have hD : va_D A (mdW cI am (va_up (va_up (va_up (va_up (va_up M83.1 0 g84) 0 g85) 0 g86) 0 g87) 0 (upd g87 11 x5), M83.2)) := hD
                    generalize eg88 : upd g87 11 x5 = g88 at hR hP hD
                    replace hR := bnd_e hR
                    refine lv_iload hx hb dX4_setPlaces_141 (lv_at hl 0 rfl) ?_
                    subst hR
                    exact krI hx hb hr hlk hP hD hS dX4_setPlaces_143 rfl rfl
                  · rw [if_neg c82] at hR hF
                    refine lv_iconst (v := 0) hx hb dX4_setPlaces_84 (by decide) ?_
                    subst hR
                    exact krI hx hb hr hlk hP hD hS dX4_setPlaces_85 rfl rfl

theorem hdX4_set : yX4_set.cls = RX4 ∧ yX4_set.cls ≠ "java/lang/invoke/MethodHandle" ∧ yX4_set.cls ≠ "java/lang/invoke/VarHandle" ∧ (parseMethodDescriptor yX4_set.desc).map (fun d => d.parameters.length) = some 2 := by decide +kernel
def fx4_set (M : Md) (x1 : Int32) (x2 : Int32) : Int32 × (Md) := (bnd (fx4_isSetting x1 x2) (fun v1 => (if v1 = 0 then (bnd (fx4_refused M 1) (fun u3 => (if u3.1 = 0 then (bnd (fx4_saves u3.2) (fun M5 => (bnd (upd (M5.1 0) (x1).toNatClampNeg x2) (fun g8 => ((M5.1 0) (x1).toNatClampNeg, (va_up M5.1 0 g8, M5.2)))))) else (0, u3.2)))) else (bnd (fx4_refused M 0) (fun u10 => (if u10.1 = 0 then (bnd (fx4_saves u10.2) (fun M12 => (bnd (upd (M12.1 0) (x1).toNatClampNeg x2) (fun g15 => ((M12.1 0) (x1).toNatClampNeg, (va_up M12.1 0 g15, M12.2)))))) else (0, u10.2)))))))
def sx4_set (M : Md) (x1 : Int32) (x2 : Int32) : Prop := (sx4_isSetting x1 x2 ∧ (bnd (fx4_isSetting x1 x2) (fun v1 => (if v1 = 0 then (bnd (fx4_refused M 1) (fun u3 => (if u3.1 = 0 then (sx4_saves u3.2 ∧ (bnd (fx4_saves u3.2) (fun M5 => (vp_in (x1) 1203 ∧ vp_in (x1) 1203)))) else True))) else (bnd (fx4_refused M 0) (fun u10 => (if u10.1 = 0 then (sx4_saves u10.2 ∧ (bnd (fx4_saves u10.2) (fun M12 => (vp_in (x1) 1203 ∧ vp_in (x1) 1203)))) else True)))))))
set_option maxHeartbeats 4000000 in
set_option maxRecDepth 100000 in
theorem cx4_set {l : Launch} {D : va_G} {cI cB cS cJ : ClassId} {K : State → Prop} (E : kE D cI cB cS cJ K) (am : Nat → Nat) (M : Md) (x1 : Int32) (x2 : Int32) (hF : sx4_set M x1 x2) : kI l D K yX4_set wsX4_set 2 43 [.ref (am 0), .int x1, .int x2] (mdW cI am M) (fx4_set M x1 x2).1 (mdW cI am ((fx4_set M x1 x2).2)) := by
  refine kI_of (own := RX4) (cc := cX4_set) (maxL := 4) (tys := kty cI cB cS cJ) (fun U h => (E.2 U h).1) (by decide) rfl rfl (Nat.le_of_ble_eq_true rfl) ?_
  intro p e s m below meth c A ls hx hb hr hml hts hown hlk hKs hK hP hD hA hS hl
  have hl : lv_has ls 4 [(0, .ref (am 0)), (1, .int x1), (2, .int x2)] := hl
  have hX : CallFix p m c cX4_set 4 s _ wsX4_set RX4 := ⟨hx, hb, hml, hown, hts⟩
  have hinX4 : ∀ w ∈ wsX40, w ∈ wsX4_set := fun w h => List.mem_cons_of_mem _ (List.mem_append_right _ h)
  have q1 := hts (.fieldLink RX4 7 "LabelStationModel" "now" "[I") (List.mem_of_getElem? (i := 1) rfl)
  generalize hR : fx4_set M x1 x2 = R
  rw [fx4_set] at hR
  rw [sx4_set] at hF
  refine lv_aload_n hx hb dX4_set_0 rfl (lv_at hl 0 rfl) ?_
  refine lv_iload_n hx hb dX4_set_1 rfl (lv_at hl 1 rfl) ?_
  refine lv_iload_n hx hb dX4_set_2 rfl (lv_at hl 2 rfl) ?_
  obtain ⟨hs17, hF⟩ := hF
  refine kcsI (As := [.int x1, .int x2]) (rest := [.ref (am 0)]) E.1 (cx4_isSetting E x1 x2 hs17) hX (va_cwS 2 hts gX4_set_X4_isSetting rfl rfl rfl hdX4_isSetting.2 ⟨Nat.le_of_ble_eq_true rfl, Nat.le_of_ble_eq_true rfl⟩) hKs hP hD hS hA _ _ (kw_nil _) (kw_nil _).symm rfl rfl hl.1 (Nat.le_of_ble_eq_true rfl) dX4_set_3 ⟨Nat.zero_le _, Nat.zero_le _⟩ (fun H locs hP hD hS => ?_)
  generalize ev1 : fx4_isSetting x1 x2 = v1 at hR hF ⊢
  replace hR := bnd_e hR
  replace hF := bnd_p hF
  refine lv_if_eq (tgt := 13) hx hb dX4_set_6 (by decide) (fun c2 => ?_) (fun c2 => ?_)
  · rw [if_pos c2] at hR hF
    refine lv_iconst (v := 1) hx hb dX4_set_13 (by decide) ?_
    refine kcI (ci := 4) (q0 := 0) (As := [.int 1]) (rest := []) E.1 (cx4_refused E am M 1) hX (cwV 1 hts gX4_set_X4_refused rfl rfl rfl hdX4_refused ⟨Nat.le_of_ble_eq_true rfl, Nat.le_of_ble_eq_true rfl⟩) hKs hK hP hD hS hA _ _ (kw_self _) (kw_self _).symm rfl rfl rfl rfl hl.1 (Nat.le_of_ble_eq_true rfl) dX4_set_14 ⟨Nat.zero_le _, Nat.zero_le _⟩ (fun H locs hP hD hS => ?_)
    have hP : va_P D vwCl (mdW cI am ((fx4_refused M 1).2)) H := hP
    have hD : va_D A (mdW cI am ((fx4_refused M 1).2)) := hD
    generalize eu3 : fx4_refused M 1 = u3 at hR hF hP hD ⊢
    replace hR := bnd_e hR
    replace hF := bnd_p hF
    refine lv_if_eq (tgt := 22) hx hb dX4_set_17 (by decide) (fun c4 => ?_) (fun c4 => ?_)
    · rw [if_pos c4] at hR hF
      refine lv_aload_n hx hb dX4_set_22 rfl (lv_at hl 0 rfl) ?_
      obtain ⟨hs9, hF⟩ := hF
      refine kcV (ci := 4) (q0 := 0) (As := []) (rest := []) E.1 (cx4_saves E am u3.2 hs9) hX (cwV 0 hts gX4_set_X4_saves rfl rfl rfl hdX4_saves ⟨Nat.le_of_ble_eq_true rfl, Nat.le_of_ble_eq_true rfl⟩) hKs hK hP hD hS hA _ _ (kw_self _) (kw_self _).symm rfl rfl rfl rfl hl.1 (Nat.le_of_ble_eq_true rfl) dX4_set_23 ⟨Nat.zero_le _, Nat.zero_le _⟩ (fun H locs hP hD hS => ?_)
      have hP : va_P D vwCl (mdW cI am (fx4_saves u3.2)) H := hP
      have hD : va_D A (mdW cI am (fx4_saves u3.2)) := hD
      generalize eM5 : fx4_saves u3.2 = M5 at hR hF hP hD
      replace hR := bnd_e hR
      replace hF := bnd_p hF
      refine lv_aload_n hx hb dX4_set_26 rfl (lv_at hl 0 rfl) ?_
      refine va_get (D := D) (ci := 4) (v := .ref (am 1)) (C := RX4) (T := TX4) (N := 8) hx hb hts hinX4 hown hK hP 0 rfl rfl 0 (by decide) q1 (fun _ h9 => h9) rfl dX4_set_27 ?_
      refine lv_iload_n hx hb dX4_set_30 rfl (lv_at hl 1 rfl) ?_
      obtain ⟨hi6, hF⟩ := hF
      refine va_iald hx hb hK hP 1 0 rfl rfl hi6 dX4_set_31 ?_
      refine lv_istore_n (lv' := [(3, .int ((M5.1 0) (x1).toNatClampNeg)), (0, .ref (am 0)), (1, .int x1), (2, .int x2)]) hx hb dX4_set_32 rfl hl (by decide) rfl (fun ls hl => ?_)
      refine lv_aload_n hx hb dX4_set_33 rfl (lv_at hl 1 rfl) ?_
      refine va_get (D := D) (ci := 4) (v := .ref (am 1)) (C := RX4) (T := TX4) (N := 8) hx hb hts hinX4 hown hK hP 0 rfl rfl 0 (by decide) q1 (fun _ h9 => h9) rfl dX4_set_34 ?_
      refine lv_iload_n hx hb dX4_set_37 rfl (lv_at hl 2 rfl) ?_
      refine lv_iload_n hx hb dX4_set_38 rfl (lv_at hl 3 rfl) ?_
      have hi7 := hF
      refine va_iast hx hb hK hP hD hS 1 0 rfl rfl hi7 dX4_set_39 (fun H locs hP hD hS => ?_)
      have hP : va_P D vwCl (mdW cI am (va_up M5.1 0 (upd (M5.1 0) (x1).toNatClampNeg x2), M5.2)) H := hP
      have hD : va_D A (mdW cI am (va_up M5.1 0 (upd (M5.1 0) (x1).toNatClampNeg x2), M5.2)) := hD
      generalize eg8 : upd (M5.1 0) (x1).toNatClampNeg x2 = g8 at hR hP hD
      replace hR := bnd_e hR
      refine lv_iload_n hx hb dX4_set_40 rfl (lv_at hl 0 rfl) ?_
      subst hR
      exact krI hx hb hr hlk hP hD hS dX4_set_41 rfl rfl
    · rw [if_neg c4] at hR hF
      refine lv_iconst (v := 0) hx hb dX4_set_20 (by decide) ?_
      subst hR
      exact krI hx hb hr hlk hP hD hS dX4_set_21 rfl rfl
  · rw [if_neg c2] at hR hF
    refine lv_iconst (v := 0) hx hb dX4_set_9 (by decide) ?_
    refine lv_goto (tgt := 14) hx hb dX4_set_10 (by decide) ?_
    refine kcI (ci := 4) (q0 := 0) (As := [.int 0]) (rest := []) E.1 (cx4_refused E am M 0) hX (cwV 1 hts gX4_set_X4_refused rfl rfl rfl hdX4_refused ⟨Nat.le_of_ble_eq_true rfl, Nat.le_of_ble_eq_true rfl⟩) hKs hK hP hD hS hA _ _ (kw_self _) (kw_self _).symm rfl rfl rfl rfl hl.1 (Nat.le_of_ble_eq_true rfl) dX4_set_14 ⟨Nat.zero_le _, Nat.zero_le _⟩ (fun H locs hP hD hS => ?_)
    have hP : va_P D vwCl (mdW cI am ((fx4_refused M 0).2)) H := hP
    have hD : va_D A (mdW cI am ((fx4_refused M 0).2)) := hD
    generalize eu10 : fx4_refused M 0 = u10 at hR hF hP hD ⊢
    replace hR := bnd_e hR
    replace hF := bnd_p hF
    refine lv_if_eq (tgt := 22) hx hb dX4_set_17 (by decide) (fun c11 => ?_) (fun c11 => ?_)
    · rw [if_pos c11] at hR hF
      refine lv_aload_n hx hb dX4_set_22 rfl (lv_at hl 0 rfl) ?_
      obtain ⟨hs16, hF⟩ := hF
      refine kcV (ci := 4) (q0 := 0) (As := []) (rest := []) E.1 (cx4_saves E am u10.2 hs16) hX (cwV 0 hts gX4_set_X4_saves rfl rfl rfl hdX4_saves ⟨Nat.le_of_ble_eq_true rfl, Nat.le_of_ble_eq_true rfl⟩) hKs hK hP hD hS hA _ _ (kw_self _) (kw_self _).symm rfl rfl rfl rfl hl.1 (Nat.le_of_ble_eq_true rfl) dX4_set_23 ⟨Nat.zero_le _, Nat.zero_le _⟩ (fun H locs hP hD hS => ?_)
      have hP : va_P D vwCl (mdW cI am (fx4_saves u10.2)) H := hP
      have hD : va_D A (mdW cI am (fx4_saves u10.2)) := hD
      generalize eM12 : fx4_saves u10.2 = M12 at hR hF hP hD
      replace hR := bnd_e hR
      replace hF := bnd_p hF
      refine lv_aload_n hx hb dX4_set_26 rfl (lv_at hl 0 rfl) ?_
      refine va_get (D := D) (ci := 4) (v := .ref (am 1)) (C := RX4) (T := TX4) (N := 8) hx hb hts hinX4 hown hK hP 0 rfl rfl 0 (by decide) q1 (fun _ h9 => h9) rfl dX4_set_27 ?_
      refine lv_iload_n hx hb dX4_set_30 rfl (lv_at hl 1 rfl) ?_
      obtain ⟨hi13, hF⟩ := hF
      refine va_iald hx hb hK hP 1 0 rfl rfl hi13 dX4_set_31 ?_
      refine lv_istore_n (lv' := [(3, .int ((M12.1 0) (x1).toNatClampNeg)), (0, .ref (am 0)), (1, .int x1), (2, .int x2)]) hx hb dX4_set_32 rfl hl (by decide) rfl (fun ls hl => ?_)
      refine lv_aload_n hx hb dX4_set_33 rfl (lv_at hl 1 rfl) ?_
      refine va_get (D := D) (ci := 4) (v := .ref (am 1)) (C := RX4) (T := TX4) (N := 8) hx hb hts hinX4 hown hK hP 0 rfl rfl 0 (by decide) q1 (fun _ h9 => h9) rfl dX4_set_34 ?_
      refine lv_iload_n hx hb dX4_set_37 rfl (lv_at hl 2 rfl) ?_
      refine lv_iload_n hx hb dX4_set_38 rfl (lv_at hl 3 rfl) ?_
      have hi14 := hF
      refine va_iast hx hb hK hP hD hS 1 0 rfl rfl hi14 dX4_set_39 (fun H locs hP hD hS => ?_)
      have hP : va_P D vwCl (mdW cI am (va_up M12.1 0 (upd (M12.1 0) (x1).toNatClampNeg x2), M12.2)) H := hP
      have hD : va_D A (mdW cI am (va_up M12.1 0 (upd (M12.1 0) (x1).toNatClampNeg x2), M12.2)) := hD
      generalize eg15 : upd (M12.1 0) (x1).toNatClampNeg x2 = g15 at hR hP hD
      replace hR := bnd_e hR
      refine lv_iload_n hx hb dX4_set_40 rfl (lv_at hl 0 rfl) ?_
      subst hR
      exact krI hx hb hr hlk hP hD hS dX4_set_41 rfl rfl
    · rw [if_neg c11] at hR hF
      refine lv_iconst (v := 0) hx hb dX4_set_20 (by decide) ?_
      subst hR
      exact krI hx hb hr hlk hP hD hS dX4_set_21 rfl rfl

theorem hdX4_value : yX4_value.cls = RX4 ∧ yX4_value.cls ≠ "java/lang/invoke/MethodHandle" ∧ yX4_value.cls ≠ "java/lang/invoke/VarHandle" ∧ (parseMethodDescriptor yX4_value.desc).map (fun d => d.parameters.length) = some 1 := by decide +kernel
def fx4_value (M : Md) (x1 : Int32) : Int32 × (Md) := (if (fx4_within x1 0 12) = 0 then (bnd (fx4_refused M 1) (fun u2 => (if u2.1 = 0 then ((u2.2.1 0) (x1).toNatClampNeg, u2.2) else (0, u2.2)))) else (bnd (fx4_refused M 0) (fun u5 => (if u5.1 = 0 then ((u5.2.1 0) (x1).toNatClampNeg, u5.2) else (0, u5.2)))))
def sx4_value (M : Md) (x1 : Int32) : Prop := (if (fx4_within x1 0 12) = 0 then (bnd (fx4_refused M 1) (fun u2 => (if u2.1 = 0 then vp_in (x1) 1203 else True))) else (bnd (fx4_refused M 0) (fun u5 => (if u5.1 = 0 then vp_in (x1) 1203 else True))))
set_option maxHeartbeats 4000000 in
set_option maxRecDepth 100000 in
theorem cx4_value {l : Launch} {D : va_G} {cI cB cS cJ : ClassId} {K : State → Prop} (E : kE D cI cB cS cJ K) (am : Nat → Nat) (M : Md) (x1 : Int32) (hF : sx4_value M x1) : kI l D K yX4_value wsX4_value 1 22 [.ref (am 0), .int x1] (mdW cI am M) (fx4_value M x1).1 (mdW cI am ((fx4_value M x1).2)) := by
  refine kI_of (own := RX4) (cc := cX4_value) (maxL := 2) (tys := kty cI cB cS cJ) (fun U h => (E.2 U h).1) (by decide) rfl rfl (Nat.le_of_ble_eq_true rfl) ?_
  intro p e s m below meth c A ls hx hb hr hml hts hown hlk hKs hK hP hD hA hS hl
  have hl : lv_has ls 2 [(0, .ref (am 0)), (1, .int x1)] := hl
  have hX : CallFix p m c cX4_value 2 s _ wsX4_value RX4 := ⟨hx, hb, hml, hown, hts⟩
  have hinX4 : ∀ w ∈ wsX40, w ∈ wsX4_value := fun w h => List.mem_cons_of_mem _ (List.mem_append_right _ h)
  have q1 := hts (.fieldLink RX4 7 "LabelStationModel" "now" "[I") (List.mem_of_getElem? (i := 1) rfl)
  generalize hR : fx4_value M x1 = R
  rw [fx4_value] at hR
  rw [sx4_value] at hF
  refine lv_aload_n hx hb dX4_value_0 rfl (lv_at hl 0 rfl) ?_
  refine lv_iload_n hx hb dX4_value_1 rfl (lv_at hl 1 rfl) ?_
  refine lv_iconst (v := 0) hx hb dX4_value_2 (by decide) ?_
  refine lv_bipush (v := 12) hx hb dX4_value_3 (by decide) ?_
  refine kcsI (As := [.int x1, .int 0, .int 12]) (rest := [.ref (am 0)]) E.1 (cx4_within E x1 0 12) hX (va_cwS 3 hts gX4_value_X4_within rfl rfl rfl hdX4_within.2 ⟨Nat.le_of_ble_eq_true rfl, Nat.le_of_ble_eq_true rfl⟩) hKs hP hD hS hA _ _ (kw_nil _) (kw_nil _).symm rfl rfl hl.1 (Nat.le_of_ble_eq_true rfl) dX4_value_5 ⟨Nat.zero_le _, Nat.zero_le _⟩ (fun H locs hP hD hS => ?_)
  refine lv_if_eq (tgt := 15) hx hb dX4_value_8 (by decide) (fun c1 => ?_) (fun c1 => ?_)
  · rw [if_pos c1] at hR hF
    refine lv_iconst (v := 1) hx hb dX4_value_15 (by decide) ?_
    refine kcI (ci := 4) (q0 := 0) (As := [.int 1]) (rest := []) E.1 (cx4_refused E am M 1) hX (cwV 1 hts gX4_value_X4_refused rfl rfl rfl hdX4_refused ⟨Nat.le_of_ble_eq_true rfl, Nat.le_of_ble_eq_true rfl⟩) hKs hK hP hD hS hA _ _ (kw_self _) (kw_self _).symm rfl rfl rfl rfl hl.1 (Nat.le_of_ble_eq_true rfl) dX4_value_16 ⟨Nat.zero_le _, Nat.zero_le _⟩ (fun H locs hP hD hS => ?_)
    have hP : va_P D vwCl (mdW cI am ((fx4_refused M 1).2)) H := hP
    have hD : va_D A (mdW cI am ((fx4_refused M 1).2)) := hD
    generalize eu2 : fx4_refused M 1 = u2 at hR hF hP hD ⊢
    replace hR := bnd_e hR
    replace hF := bnd_p hF
    refine lv_if_eq (tgt := 26) hx hb dX4_value_19 (by decide) (fun c3 => ?_) (fun c3 => ?_)
    · rw [if_pos c3] at hR hF
      refine lv_aload_n hx hb dX4_value_26 rfl (lv_at hl 0 rfl) ?_
      refine va_get (D := D) (ci := 4) (v := .ref (am 1)) (C := RX4) (T := TX4) (N := 8) hx hb hts hinX4 hown hK hP 0 rfl rfl 0 (by decide) q1 (fun _ h9 => h9) rfl dX4_value_27 ?_
      refine lv_iload_n hx hb dX4_value_30 rfl (lv_at hl 1 rfl) ?_
      have hi4 := hF
      refine va_iald hx hb hK hP 1 0 rfl rfl hi4 dX4_value_31 ?_
      subst hR
      exact krI hx hb hr hlk hP hD hS dX4_value_32 rfl rfl
    · rw [if_neg c3] at hR hF
      refine lv_iconst (v := 0) hx hb dX4_value_22 (by decide) ?_
      refine lv_goto (tgt := 32) hx hb dX4_value_23 (by decide) ?_
      subst hR
      exact krI hx hb hr hlk hP hD hS dX4_value_32 rfl rfl
  · rw [if_neg c1] at hR hF
    refine lv_iconst (v := 0) hx hb dX4_value_11 (by decide) ?_
    refine lv_goto (tgt := 16) hx hb dX4_value_12 (by decide) ?_
    refine kcI (ci := 4) (q0 := 0) (As := [.int 0]) (rest := []) E.1 (cx4_refused E am M 0) hX (cwV 1 hts gX4_value_X4_refused rfl rfl rfl hdX4_refused ⟨Nat.le_of_ble_eq_true rfl, Nat.le_of_ble_eq_true rfl⟩) hKs hK hP hD hS hA _ _ (kw_self _) (kw_self _).symm rfl rfl rfl rfl hl.1 (Nat.le_of_ble_eq_true rfl) dX4_value_16 ⟨Nat.zero_le _, Nat.zero_le _⟩ (fun H locs hP hD hS => ?_)
    have hP : va_P D vwCl (mdW cI am ((fx4_refused M 0).2)) H := hP
    have hD : va_D A (mdW cI am ((fx4_refused M 0).2)) := hD
    generalize eu5 : fx4_refused M 0 = u5 at hR hF hP hD ⊢
    replace hR := bnd_e hR
    replace hF := bnd_p hF
    refine lv_if_eq (tgt := 26) hx hb dX4_value_19 (by decide) (fun c6 => ?_) (fun c6 => ?_)
    · rw [if_pos c6] at hR hF
      refine lv_aload_n hx hb dX4_value_26 rfl (lv_at hl 0 rfl) ?_
      refine va_get (D := D) (ci := 4) (v := .ref (am 1)) (C := RX4) (T := TX4) (N := 8) hx hb hts hinX4 hown hK hP 0 rfl rfl 0 (by decide) q1 (fun _ h9 => h9) rfl dX4_value_27 ?_
      refine lv_iload_n hx hb dX4_value_30 rfl (lv_at hl 1 rfl) ?_
      have hi7 := hF
      refine va_iald hx hb hK hP 1 0 rfl rfl hi7 dX4_value_31 ?_
      subst hR
      exact krI hx hb hr hlk hP hD hS dX4_value_32 rfl rfl
    · rw [if_neg c6] at hR hF
      refine lv_iconst (v := 0) hx hb dX4_value_22 (by decide) ?_
      refine lv_goto (tgt := 32) hx hb dX4_value_23 (by decide) ?_
      subst hR
      exact krI hx hb hr hlk hP hD hS dX4_value_32 rfl rfl

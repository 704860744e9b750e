/-! the model: fate -/
theorem hdX4_fate : yX4_fate.cls = RX4 ∧ yX4_fate.cls ≠ "java/lang/invoke/MethodHandle" ∧ yX4_fate.cls ≠ "java/lang/invoke/VarHandle" ∧ (parseMethodDescriptor yX4_fate.desc).map (fun d => d.parameters.length) = some 1 := by decide +kernel
def fx4_fate_L69 : Nat → Int32 → Int32 → Md → Int32 × (Md)
  | 0, _, _, M => (0, M)
  | n69 + 1, y1, y2, M => (if 1000 ≤ y2 then (bnd (fx4_takesBack M) (fun M70002 => ((M.1 0) 1201, M70002))) else (if ((M.1 0) 1201) = 0 then (bnd ((va_up M.1 0 (fx4_tickOn (M.1 0)), M.2)) (fun M70005 => fx4_fate_L69 n69 y1 (y2 + 1) M70005)) else (bnd (fx4_takesBack M) (fun M70007 => ((M.1 0) 1201, M70007)))))
def sx4_fate_L69 : Nat → Int32 → Int32 → Md → Prop
  | 0, _, _, _ => False
  | n69 + 1, y1, y2, M => (if 1000 ≤ y2 then sx4_takesBack M else (if ((M.1 0) 1201) = 0 then (sx4_tickOn (M.1 0) ∧ (bnd ((va_up M.1 0 (fx4_tickOn (M.1 0)), M.2)) (fun M70005 => sx4_fate_L69 n69 y1 (y2 + 1) M70005))) else sx4_takesBack M))
def fx4_fate (M : Md) (x1 : Int32) : Int32 × (Md) := (bnd (fx4_recordOf (M.1 0) x1) (fun v1 => (if v1 = (-1) then (bnd (fx4_refused M 1) (fun u3 => (if u3.1 = 0 then (bnd (fx4_laysAside u3.2) (fun M5 => (bnd ((va_up M5.1 0 (upd (M5.1 0) 1202 x1), M5.2)) (fun M6 => (bnd ((va_up M6.1 0 (upd (M6.1 0) 1201 0), M6.2)) (fun M7 => (if ((M7.1 0) 16) = 0 then (bnd ((va_up M7.1 0 (upd (M7.1 0) 15 1), M7.2)) (fun M9 => fx4_fate_L69 kfu x1 0 M9)) else (bnd ((va_up M7.1 0 (upd (M7.1 0) 15 0), M7.2)) (fun M10 => fx4_fate_L69 kfu x1 0 M10))))))))) else (0, u3.2)))) else (bnd (fx4_refused M 0) (fun u12 => (if u12.1 = 0 then (bnd (fx4_laysAside u12.2) (fun M14 => (bnd ((va_up M14.1 0 (upd (M14.1 0) 1202 x1), M14.2)) (fun M15 => (bnd ((va_up M15.1 0 (upd (M15.1 0) 1201 0), M15.2)) (fun M16 => (if ((M16.1 0) 16) = 0 then (bnd ((va_up M16.1 0 (upd (M16.1 0) 15 1), M16.2)) (fun M18 => fx4_fate_L69 kfu x1 0 M18)) else (bnd ((va_up M16.1 0 (upd (M16.1 0) 15 0), M16.2)) (fun M19 => fx4_fate_L69 kfu x1 0 M19))))))))) else (0, u12.2)))))))
def sx4_fate (M : Md) (x1 : Int32) : Prop := (sx4_recordOf (M.1 0) x1 ∧ (bnd (fx4_recordOf (M.1 0) x1) (fun v1 => (if v1 = (-1) then (bnd (fx4_refused M 1) (fun u3 => (if u3.1 = 0 then (sx4_laysAside u3.2 ∧ (bnd (fx4_laysAside u3.2) (fun M5 => (bnd ((va_up M5.1 0 (upd (M5.1 0) 1202 x1), M5.2)) (fun M6 => (bnd ((va_up M6.1 0 (upd (M6.1 0) 1201 0), M6.2)) (fun M7 => (if ((M7.1 0) 16) = 0 then (bnd ((va_up M7.1 0 (upd (M7.1 0) 15 1), M7.2)) (fun M9 => sx4_fate_L69 kfu x1 0 M9)) else (bnd ((va_up M7.1 0 (upd (M7.1 0) 15 0), M7.2)) (fun M10 => sx4_fate_L69 kfu x1 0 M10)))))))))) else True))) else (bnd (fx4_refused M 0) (fun u12 => (if u12.1 = 0 then (sx4_laysAside u12.2 ∧ (bnd (fx4_laysAside u12.2) (fun M14 => (bnd ((va_up M14.1 0 (upd (M14.1 0) 1202 x1), M14.2)) (fun M15 => (bnd ((va_up M15.1 0 (upd (M15.1 0) 1201 0), M15.2)) (fun M16 => (if ((M16.1 0) 16) = 0 then (bnd ((va_up M16.1 0 (upd (M16.1 0) 15 1), M16.2)) (fun M18 => sx4_fate_L69 kfu x1 0 M18)) else (bnd ((va_up M16.1 0 (upd (M16.1 0) 15 0), M16.2)) (fun M19 => sx4_fate_L69 kfu x1 0 M19)))))))))) else True)))))))
set_option maxHeartbeats 4000000 in
set_option maxRecDepth 100000 in
theorem cx4_fate {l : Launch} {D : va_G} {cI cB cS cJ : ClassId} {K : State → Prop} (E : kE D cI cB cS cJ K) (am : Nat → Nat) (M : Md) (x1 : Int32) (hF : sx4_fate M x1) : kI l D K yX4_fate wsX4_fate 6 136 [.ref (am 0), .int x1] (mdW cI am M) (fx4_fate M x1).1 (mdW cI am ((fx4_fate M x1).2)) := by
  refine kI_of (own := RX4) (cc := cX4_fate) (maxL := 3) (tys := kty cI cB cS cJ) (fun U h => (E.2 U h).1) (by decide) rfl rfl (Nat.le_of_ble_eq_true rfl) ?_
  intro p e s m below meth c A ls hx hb hr hml hts hown hlk hKs hK hP hD hA hS hl
  have hl : lv_has ls 3 [(0, .ref (am 0)), (1, .int x1)] := hl
  have hX : CallFix p m c cX4_fate 3 s _ wsX4_fate RX4 := ⟨hx, hb, hml, hown, hts⟩
  have hinX4 : ∀ w ∈ wsX40, w ∈ wsX4_fate := fun w h => List.mem_cons_of_mem _ (List.mem_append_right _ h)
  have q1 := hts (.fieldLink RX4 7 "LabelStationModel" "now" "[I") (List.mem_of_getElem? (i := 1) rfl)
  generalize hR : fx4_fate M x1 = R
  rw [fx4_fate] at hR
  rw [sx4_fate] at hF
  refine lv_aload_n hx hb dX4_fate_0 rfl (lv_at hl 0 rfl) ?_
  refine lv_aload_n hx hb dX4_fate_1 rfl (lv_at hl 0 rfl) ?_
  refine lv_iload_n hx hb dX4_fate_2 rfl (lv_at hl 1 rfl) ?_
  obtain ⟨hs21, hF⟩ := hF
  refine kcI (ci := 4) (q0 := 0) (As := [.int x1]) (rest := [.ref (am 0)]) E.1 (cx4_recordOf E am (M.1 4 0) (M.1 4 1) (M.1 4 2) M.2 (M.1 0) x1 hs21) hX (cwV 1 hts gX4_fate_X4_recordOf rfl rfl rfl hdX4_recordOf ⟨Nat.le_of_ble_eq_true rfl, Nat.le_of_ble_eq_true rfl⟩) hKs hK hP hD hS hA _ _ (md_mn cI am M) (md_mn cI am M).symm rfl rfl rfl rfl hl.1 (Nat.le_of_ble_eq_true rfl) dX4_fate_3 ⟨Nat.zero_le _, Nat.zero_le _⟩ (fun H locs hP hD hS => ?_)
  generalize ev1 : fx4_recordOf (M.1 0) x1 = v1 at hR hF ⊢
  replace hR := bnd_e hR
  replace hF := bnd_p hF
  refine lv_iconst (v := (-1)) hx hb dX4_fate_6 (by decide) ?_
  refine lv_icmp_ne (tgt := 14) hx hb dX4_fate_7 (by decide) (fun c2 => ?_) (fun c2 => ?_)
  · rw [if_neg c2] at hR hF
    refine lv_iconst (v := 0) hx hb dX4_fate_14 (by decide) ?_
    refine kcI (ci := 4) (q0 := 0) (As := [.int 0]) (rest := []) E.1 (cx4_refused E am M 0) hX (cwV 1 hts gX4_fate_X4_refused rfl rfl rfl hdX4_refused ⟨Nat.le_of_ble_eq_true rfl, Nat.le_of_ble_eq_true rfl⟩) hKs hK hP hD hS hA _ _ (kw_self _) (kw_self _).symm rfl rfl rfl rfl hl.1 (Nat.le_of_ble_eq_true rfl) dX4_fate_15 ⟨Nat.zero_le _, Nat.zero_le _⟩ (fun H locs hP hD hS => ?_)
    have hP : va_P D vwCl (mdW cI am ((fx4_refused M 0).2)) H := hP
    have hD : va_D A (mdW cI am ((fx4_refused M 0).2)) := hD
    generalize eu12 : fx4_refused M 0 = u12 at hR hF hP hD ⊢
    replace hR := bnd_e hR
    replace hF := bnd_p hF
    refine lv_if_eq (tgt := 23) hx hb dX4_fate_18 (by decide) (fun c13 => ?_) (fun c13 => ?_)
    · rw [if_pos c13] at hR hF
      refine lv_aload_n hx hb dX4_fate_23 rfl (lv_at hl 0 rfl) ?_
      obtain ⟨hs20, hF⟩ := hF
      refine kcV (ci := 4) (q0 := 0) (As := []) (rest := []) E.1 (cx4_laysAside E am u12.2 hs20) hX (cwV 0 hts gX4_fate_X4_laysAside rfl rfl rfl hdX4_laysAside ⟨Nat.le_of_ble_eq_true rfl, Nat.le_of_ble_eq_true rfl⟩) hKs hK hP hD hS hA _ _ (kw_self _) (kw_self _).symm rfl rfl rfl rfl hl.1 (Nat.le_of_ble_eq_true rfl) dX4_fate_24 ⟨Nat.zero_le _, Nat.zero_le _⟩ (fun H locs hP hD hS => ?_)
      have hP : va_P D vwCl (mdW cI am (fx4_laysAside u12.2)) H := hP
      have hD : va_D A (mdW cI am (fx4_laysAside u12.2)) := hD
      obtain ⟨M14, hR, hF, hP, hD⟩ := kgenF (P := fun X9 => va_P D vwCl (mdW cI am X9) H ∧ va_D A (mdW cI am X9)) hR hF ⟨hP, hD⟩
      refine lv_aload_n hx hb dX4_fate_27 rfl (lv_at hl 0 rfl) ?_
      refine va_get (D := D) (ci := 4) (v := .ref (am 1)) (C := RX4) (T := TX4) (N := 8) hx hb hts hinX4 hown hK hP 0 rfl rfl 0 (by decide) q1 (fun _ h9 => h9) rfl dX4_fate_28 ?_
      refine lv_sipush (v := 1202) hx hb dX4_fate_31 (by decide) ?_
      refine lv_iload_n hx hb dX4_fate_34 rfl (lv_at hl 1 rfl) ?_
      refine va_iast hx hb hK hP hD hS 1 0 rfl rfl (kin_lit (j := 1202) (n := 1203) (by decide) (by decide)) dX4_fate_35 (fun H locs hP hD hS => ?_)
      have hP : va_P D vwCl (mdW cI am (va_up M14.1 0 (upd (M14.1 0) 1202 x1), M14.2)) H := hP
      have hD : va_D A (mdW cI am (va_up M14.1 0 (upd (M14.1 0) 1202 x1), M14.2)) := hD
      obtain ⟨M15, hR, hF, hP, hD⟩ := kgenF (P := fun X9 => va_P D vwCl (mdW cI am X9) H ∧ va_D A (mdW cI am X9)) hR hF ⟨hP, hD⟩
      refine lv_aload_n hx hb dX4_fate_36 rfl (lv_at hl 0 rfl) ?_
      refine va_get (D := D) (ci := 4) (v := .ref (am 1)) (C := RX4) (T := TX4) (N := 8) hx hb hts hinX4 hown hK hP 0 rfl rfl 0 (by decide) q1 (fun _ h9 => h9) rfl dX4_fate_37 ?_
      refine lv_sipush (v := 1201) hx hb dX4_fate_40 (by decide) ?_
      refine lv_iconst (v := 0) hx hb dX4_fate_43 (by decide) ?_
      refine va_iast hx hb hK hP hD hS 1 0 rfl rfl (kin_lit (j := 1201) (n := 1203) (by decide) (by decide)) dX4_fate_44 (fun H locs hP hD hS => ?_)
      have hP : va_P D vwCl (mdW cI am (va_up M15.1 0 (upd (M15.1 0) 1201 0), M15.2)) H := hP
      have hD : va_D A (mdW cI am (va_up M15.1 0 (upd (M15.1 0) 1201 0), M15.2)) := hD
      obtain ⟨M16, hR, hF, hP, hD⟩ := kgenF (P := fun X9 => va_P D vwCl (mdW cI am X9) H ∧ va_D A (mdW cI am X9)) hR hF ⟨hP, hD⟩
      refine lv_aload_n hx hb dX4_fate_45 rfl (lv_at hl 0 rfl) ?_
      refine va_get (D := D) (ci := 4) (v := .ref (am 1)) (C := RX4) (T := TX4) (N := 8) hx hb hts hinX4 hown hK hP 0 rfl rfl 0 (by decide) q1 (fun _ h9 => h9) rfl dX4_fate_46 ?_
      refine lv_bipush (v := 15) hx hb dX4_fate_49 (by decide) ?_
      refine lv_aload_n hx hb dX4_fate_51 rfl (lv_at hl 0 rfl) ?_
      refine va_get (D := D) (ci := 4) (v := .ref (am 1)) (C := RX4) (T := TX4) (N := 8) hx hb hts hinX4 hown hK hP 0 rfl rfl 0 (by decide) q1 (fun _ h9 => h9) rfl dX4_fate_52 ?_
      refine lv_bipush (v := 16) hx hb dX4_fate_55 (by decide) ?_
      refine va_iald hx hb hK hP 1 0 rfl rfl (kin_lit (j := 16) (n := 1203) (by decide) (by decide)) dX4_fate_57 ?_
      refine kw_top (v := .int ((M16.1 0) 16)) rfl ?_
      refine lv_if_ne (tgt := 65) hx hb dX4_fate_58 (by decide) (fun c17 => ?_) (fun c17 => ?_)
      · rw [if_neg c17] at hR hF
        refine lv_iconst (v := 0) hx hb dX4_fate_65 (by decide) ?_
        refine va_iast hx hb hK hP hD hS 1 0 rfl rfl (kin_lit (j := 15) (n := 1203) (by decide) (by decide)) dX4_fate_66 (fun H locs hP hD hS => ?_)
        have hP : va_P D vwCl (mdW cI am (va_up M16.1 0 (upd (M16.1 0) 15 0), M16.2)) H := hP
        have hD : va_D A (mdW cI am (va_up M16.1 0 (upd (M16.1 0) 15 0), M16.2)) := hD
        obtain ⟨M19, hR, hF, hP, hD⟩ := kgenF (P := fun X9 => va_P D vwCl (mdW cI am X9) H ∧ va_D A (mdW cI am X9)) hR hF ⟨hP, hD⟩
        refine lv_iconst (v := 0) hx hb dX4_fate_67 (by decide) ?_
        refine lv_istore_n (lv' := [(2, .int 0), (0, .ref (am 0)), (1, .int x1)]) hx hb dX4_fate_68 rfl hl (by decide) rfl (fun ls hl => ?_)
        have loop69 : ∀ (n69 : Nat) (y1 : Int32) (y2 : Int32) (M : Md) (H : Heap) (locs : List Loc) (ls : Array Slot), fx4_fate_L69 n69 y1 y2 M = R → sx4_fate_L69 n69 y1 y2 M → va_P D vwCl (mdW cI am M) H → va_D A (mdW cI am M) → va_S A s.heap H locs → lv_has ls 3 [(1, .int y1), (2, .int y2), (0, .ref (am 0))] → W p l e (kRm 6 136) s m ([.ref (am 0), .int x1] : List Value).toArray below meth c H locs 0 0 (kQI D below R.1 (mdW cI am R.2) A ([.ref (am 0), .int x1] : List Value).toArray s) (F0 m 69 ls []) := by
          intro n69
          induction n69 with
          | zero => intro y1 y2 M H locs ls hR hF; exact hF.elim
          | succ n69 ih69 =>
            intro y1 y2 M H locs ls hR hF hP hD hS hl
            rw [fx4_fate_L69] at hR
            rw [sx4_fate_L69] at hF
            refine lv_iload_n hx hb dX4_fate_69 rfl (lv_at hl 1 rfl) ?_
            refine lv_sipush (v := 1000) hx hb dX4_fate_70 (by decide) ?_
            refine lv_icmp_ge (tgt := 97) hx hb dX4_fate_73 (by decide) (fun c70001 => ?_) (fun c70001 => ?_)
            · rw [if_pos c70001] at hR hF
              refine lv_aload_n hx hb dX4_fate_97 rfl (lv_at hl 2 rfl) ?_
              refine va_get (D := D) (ci := 4) (v := .ref (am 1)) (C := RX4) (T := TX4) (N := 8) hx hb hts hinX4 hown hK hP 0 rfl rfl 0 (by decide) q1 (fun _ h9 => h9) rfl dX4_fate_98 ?_
              refine lv_sipush (v := 1201) hx hb dX4_fate_101 (by decide) ?_
              refine va_iald hx hb hK hP 1 0 rfl rfl (kin_lit (j := 1201) (n := 1203) (by decide) (by decide)) dX4_fate_104 ?_
              refine kw_top (v := .int ((M.1 0) 1201)) rfl ?_
              refine lv_istore_n (lv' := [(2, .int ((M.1 0) 1201)), (1, .int y1), (0, .ref (am 0))]) hx hb dX4_fate_105 rfl hl (by decide) rfl (fun ls hl => ?_)
              refine lv_aload_n hx hb dX4_fate_106 rfl (lv_at hl 2 rfl) ?_
              have hs70003 := hF
              refine kcV (ci := 4) (q0 := 0) (As := []) (rest := []) E.1 (cx4_takesBack E am M hs70003) hX (cwV 0 hts gX4_fate_X4_takesBack rfl rfl rfl hdX4_takesBack ⟨Nat.le_of_ble_eq_true rfl, Nat.le_of_ble_eq_true rfl⟩) hKs hK hP hD hS hA _ _ (kw_self _) (kw_self _).symm rfl rfl rfl rfl hl.1 (Nat.le_of_ble_eq_true rfl) dX4_fate_107 ⟨Nat.zero_le _, Nat.zero_le _⟩ (fun H locs hP hD hS => ?_)
              have hP : va_P D vwCl (mdW cI am (fx4_takesBack M)) H := hP
              have hD : va_D A (mdW cI am (fx4_takesBack M)) := hD
              obtain ⟨M70002, hR, hP, hD⟩ := kgen (P := fun X9 => va_P D vwCl (mdW cI am X9) H ∧ va_D A (mdW cI am X9)) hR ⟨hP, hD⟩
              refine lv_iload_n hx hb dX4_fate_110 rfl (lv_at hl 0 rfl) ?_
              subst hR
              exact krI hx hb hr hlk hP hD hS dX4_fate_111 rfl rfl
            · rw [if_neg c70001] at hR hF
              refine lv_aload_n hx hb dX4_fate_76 rfl (lv_at hl 2 rfl) ?_
              refine va_get (D := D) (ci := 4) (v := .ref (am 1)) (C := RX4) (T := TX4) (N := 8) hx hb hts hinX4 hown hK hP 0 rfl rfl 0 (by decide) q1 (fun _ h9 => h9) rfl dX4_fate_77 ?_
              refine lv_sipush (v := 1201) hx hb dX4_fate_80 (by decide) ?_
              refine va_iald hx hb hK hP 1 0 rfl rfl (kin_lit (j := 1201) (n := 1203) (by decide) (by decide)) dX4_fate_83 ?_
              refine kw_top (v := .int ((M.1 0) 1201)) rfl ?_
              refine lv_if_ne (tgt := 97) hx hb dX4_fate_84 (by decide) (fun c70004 => ?_) (fun c70004 => ?_)
              · rw [if_neg c70004] at hR hF
                refine lv_aload_n hx hb dX4_fate_97 rfl (lv_at hl 2 rfl) ?_
                refine va_get (D := D) (ci := 4) (v := .ref (am 1)) (C := RX4) (T := TX4) (N := 8) hx hb hts hinX4 hown hK hP 0 rfl rfl 0 (by decide) q1 (fun _ h9 => h9) rfl dX4_fate_98 ?_
                refine lv_sipush (v := 1201) hx hb dX4_fate_101 (by decide) ?_
                refine va_iald hx hb hK hP 1 0 rfl rfl (kin_lit (j := 1201) (n := 1203) (by decide) (by decide)) dX4_fate_104 ?_
                refine kw_top (v := .int ((M.1 0) 1201)) rfl ?_
                refine lv_istore_n (lv' := [(2, .int ((M.1 0) 1201)), (1, .int y1), (0, .ref (am 0))]) hx hb dX4_fate_105 rfl hl (by decide) rfl (fun ls hl => ?_)
                refine lv_aload_n hx hb dX4_fate_106 rfl (lv_at hl 2 rfl) ?_
                have hs70008 := hF
                refine kcV (ci := 4) (q0 := 0) (As := []) (rest := []) E.1 (cx4_takesBack E am M hs70008) hX (cwV 0 hts gX4_fate_X4_takesBack rfl rfl rfl hdX4_takesBack ⟨Nat.le_of_ble_eq_true rfl, Nat.le_of_ble_eq_true rfl⟩) hKs hK hP hD hS hA _ _ (kw_self _) (kw_self _).symm rfl rfl rfl rfl hl.1 (Nat.le_of_ble_eq_true rfl) dX4_fate_107 ⟨Nat.zero_le _, Nat.zero_le _⟩ (fun H locs hP hD hS => ?_)
                have hP : va_P D vwCl (mdW cI am (fx4_takesBack M)) H := hP
                have hD : va_D A (mdW cI am (fx4_takesBack M)) := hD
                obtain ⟨M70007, hR, hP, hD⟩ := kgen (P := fun X9 => va_P D vwCl (mdW cI am X9) H ∧ va_D A (mdW cI am X9)) hR ⟨hP, hD⟩
                refine lv_iload_n hx hb dX4_fate_110 rfl (lv_at hl 0 rfl) ?_
                subst hR
                exact krI hx hb hr hlk hP hD hS dX4_fate_111 rfl rfl
              · rw [if_pos c70004] at hR hF
                refine lv_aload_n hx hb dX4_fate_87 rfl (lv_at hl 2 rfl) ?_
                obtain ⟨hs70006, hF⟩ := hF
                refine kcV (ci := 4) (q0 := 0) (As := []) (rest := []) E.1 (cx4_tickOn E am (M.1 4 0) (M.1 4 1) (M.1 4 2) M.2 (M.1 0) hs70006) hX (cwV 0 hts gX4_fate_X4_tickOn rfl rfl rfl hdX4_tickOn ⟨Nat.le_of_ble_eq_true rfl, Nat.le_of_ble_eq_true rfl⟩) hKs hK hP hD hS hA _ _ (md_mn cI am M) (md_mn' cI am M _) rfl rfl rfl rfl hl.1 (Nat.le_of_ble_eq_true rfl) dX4_fate_88 ⟨Nat.zero_le _, Nat.zero_le _⟩ (fun H locs hP hD hS => ?_)
                have hP : va_P D vwCl (mdW cI am (va_up M.1 0 (fx4_tickOn (M.1 0)), M.2)) H := hP
                have hD : va_D A (mdW cI am (va_up M.1 0 (fx4_tickOn (M.1 0)), M.2)) := hD
                obtain ⟨M70005, hR, hF, hP, hD⟩ := kgenF (P := fun X9 => va_P D vwCl (mdW cI am X9) H ∧ va_D A (mdW cI am X9)) hR hF ⟨hP, hD⟩
                refine lv_iinc (v := y2 + 1) (lv' := [(2, .int (y2 + 1)), (1, .int y1), (0, .ref (am 0))]) hx hb dX4_fate_91 hl (k := 1) rfl rfl (by decide) rfl (fun ls hl => ?_)
                refine lv_goto (tgt := 69) hx hb dX4_fate_94 (by decide) ?_
                exact ih69 y1 (y2 + 1) M70005 _ _ ls hR hF hP hD hS (lv_sub hl [1, 0, 2] rfl)
        exact loop69 kfu x1 0 M19 _ _ ls hR hF hP hD hS (lv_sub hl [2, 0, 1] rfl)
      · rw [if_pos c17] at hR hF
        refine lv_iconst (v := 1) hx hb dX4_fate_61 (by decide) ?_
        refine lv_goto (tgt := 66) hx hb dX4_fate_62 (by decide) ?_
        refine va_iast hx hb hK hP hD hS 1 0 rfl rfl (kin_lit (j := 15) (n := 1203) (by decide) (by decide)) dX4_fate_66 (fun H locs hP hD hS => ?_)
        have hP : va_P D vwCl (mdW cI am (va_up M16.1 0 (upd (M16.1 0) 15 1), M16.2)) H := hP
        have hD : va_D A (mdW cI am (va_up M16.1 0 (upd (M16.1 0) 15 1), M16.2)) := hD
        obtain ⟨M18, hR, hF, hP, hD⟩ := kgenF (P := fun X9 => va_P D vwCl (mdW cI am X9) H ∧ va_D A (mdW cI am X9)) hR hF ⟨hP, hD⟩
        refine lv_iconst (v := 0) hx hb dX4_fate_67 (by decide) ?_
        refine lv_istore_n (lv' := [(2, .int 0), (0, .ref (am 0)), (1, .int x1)]) hx hb dX4_fate_68 rfl hl (by decide) rfl (fun ls hl => ?_)
        have loop69 : ∀ (n69 : Nat) (y1 : Int32) (y2 : Int32) (M : Md) (H : Heap) (locs : List Loc) (ls : Array Slot), fx4_fate_L69 n69 y1 y2 M = R → sx4_fate_L69 n69 y1 y2 M → va_P D vwCl (mdW cI am M) H → va_D A (mdW cI am M) → va_S A s.heap H locs → lv_has ls 3 [(1, .int y1), (2, .int y2), (0, .ref (am 0))] → W p l e (kRm 6 136) s m ([.ref (am 0), .int x1] : List Value).toArray below meth c H locs 0 0 (kQI D below R.1 (mdW cI am R.2) A ([.ref (am 0), .int x1] : List Value).toArray s) (F0 m 69 ls []) := by
          intro n69
          induction n69 with
          | zero => intro y1 y2 M H locs ls hR hF; exact hF.elim
          | succ n69 ih69 =>
            intro y1 y2 M H locs ls hR hF hP hD hS hl
            rw [fx4_fate_L69] at hR
            rw [sx4_fate_L69] at hF
            refine lv_iload_n hx hb dX4_fate_69 rfl (lv_at hl 1 rfl) ?_
            refine lv_sipush (v := 1000) hx hb dX4_fate_70 (by decide) ?_
            refine lv_icmp_ge (tgt := 97) hx hb dX4_fate_73 (by decide) (fun c70001 => ?_) (fun c70001 => ?_)
            · rw [if_pos c70001] at hR hF
              refine lv_aload_n hx hb dX4_fate_97 rfl (lv_at hl 2 rfl) ?_
              refine va_get (D := D) (ci := 4) (v := .ref (am 1)) (C := RX4) (T := TX4) (N := 8) hx hb hts hinX4 hown hK hP 0 rfl rfl 0 (by decide) q1 (fun _ h9 => h9) rfl dX4_fate_98 ?_
              refine lv_sipush (v := 1201) hx hb dX4_fate_101 (by decide) ?_
              refine va_iald hx hb hK hP 1 0 rfl rfl (kin_lit (j := 1201) (n := 1203) (by decide) (by decide)) dX4_fate_104 ?_
              refine kw_top (v := .int ((M.1 0) 1201)) rfl ?_
              refine lv_istore_n (lv' := [(2, .int ((M.1 0) 1201)), (1, .int y1), (0, .ref (am 0))]) hx hb dX4_fate_105 rfl hl (by decide) rfl (fun ls hl => ?_)
              refine lv_aload_n hx hb dX4_fate_106 rfl (lv_at hl 2 rfl) ?_
              have hs70003 := hF
              refine kcV (ci := 4) (q0 := 0) (As := []) (rest := []) E.1 (cx4_takesBack E am M hs70003) hX (cwV 0 hts gX4_fate_X4_takesBack rfl rfl rfl hdX4_takesBack ⟨Nat.le_of_ble_eq_true rfl, Nat.le_of_ble_eq_true rfl⟩) hKs hK hP hD hS hA _ _ (kw_self _) (kw_self _).symm rfl rfl rfl rfl hl.1 (Nat.le_of_ble_eq_true rfl) dX4_fate_107 ⟨Nat.zero_le _, Nat.zero_le _⟩ (fun H locs hP hD hS => ?_)
              have hP : va_P D vwCl (mdW cI am (fx4_takesBack M)) H := hP
              have hD : va_D A (mdW cI am (fx4_takesBack M)) := hD
              obtain ⟨M70002, hR, hP, hD⟩ := kgen (P := fun X9 => va_P D vwCl (mdW cI am X9) H ∧ va_D A (mdW cI am X9)) hR ⟨hP, hD⟩
              refine lv_iload_n hx hb dX4_fate_110 rfl (lv_at hl 0 rfl) ?_
              subst hR
              exact krI hx hb hr hlk hP hD hS dX4_fate_111 rfl rfl
            · rw [if_neg c70001] at hR hF
              refine lv_aload_n hx hb dX4_fate_76 rfl (lv_at hl 2 rfl) ?_
              refine va_get (D := D) (ci := 4) (v := .ref (am 1)) (C := RX4) (T := TX4) (N := 8) hx hb hts hinX4 hown hK hP 0 rfl rfl 0 (by decide) q1 (fun _ h9 => h9) rfl dX4_fate_77 ?_
              refine lv_sipush (v := 1201) hx hb dX4_fate_80 (by decide) ?_
              refine va_iald hx hb hK hP 1 0 rfl rfl (kin_lit (j := 1201) (n := 1203) (by decide) (by decide)) dX4_fate_83 ?_
              refine kw_top (v := .int ((M.1 0) 1201)) rfl ?_
              refine lv_if_ne (tgt := 97) hx hb dX4_fate_84 (by decide) (fun c70004 => ?_) (fun c70004 => ?_)
              · rw [if_neg c70004] at hR hF
                refine lv_aload_n hx hb dX4_fate_97 rfl (lv_at hl 2 rfl) ?_
                refine va_get (D := D) (ci := 4) (v := .ref (am 1)) (C := RX4) (T := TX4) (N := 8) hx hb hts hinX4 hown hK hP 0 rfl rfl 0 (by decide) q1 (fun _ h9 => h9) rfl dX4_fate_98 ?_
                refine lv_sipush (v := 1201) hx hb dX4_fate_101 (by decide) ?_
                refine va_iald hx hb hK hP 1 0 rfl rfl (kin_lit (j := 1201) (n := 1203) (by decide) (by decide)) dX4_fate_104 ?_
                refine kw_top (v := .int ((M.1 0) 1201)) rfl ?_
                refine lv_istore_n (lv' := [(2, .int ((M.1 0) 1201)), (1, .int y1), (0, .ref (am 0))]) hx hb dX4_fate_105 rfl hl (by decide) rfl (fun ls hl => ?_)
                refine lv_aload_n hx hb dX4_fate_106 rfl (lv_at hl 2 rfl) ?_
                have hs70008 := hF
                refine kcV (ci := 4) (q0 := 0) (As := []) (rest := []) E.1 (cx4_takesBack E am M hs70008) hX (cwV 0 hts gX4_fate_X4_takesBack rfl rfl rfl hdX4_takesBack ⟨Nat.le_of_ble_eq_true rfl, Nat.le_of_ble_eq_true rfl⟩) hKs hK hP hD hS hA _ _ (kw_self _) (kw_self _).symm rfl rfl rfl rfl hl.1 (Nat.le_of_ble_eq_true rfl) dX4_fate_107 ⟨Nat.zero_le _, Nat.zero_le _⟩ (fun H locs hP hD hS => ?_)
                have hP : va_P D vwCl (mdW cI am (fx4_takesBack M)) H := hP
                have hD : va_D A (mdW cI am (fx4_takesBack M)) := hD
                obtain ⟨M70007, hR, hP, hD⟩ := kgen (P := fun X9 => va_P D vwCl (mdW cI am X9) H ∧ va_D A (mdW cI am X9)) hR ⟨hP, hD⟩
                refine lv_iload_n hx hb dX4_fate_110 rfl (lv_at hl 0 rfl) ?_
                subst hR
                exact krI hx hb hr hlk hP hD hS dX4_fate_111 rfl rfl
              · rw [if_pos c70004] at hR hF
                refine lv_aload_n hx hb dX4_fate_87 rfl (lv_at hl 2 rfl) ?_
                obtain ⟨hs70006, hF⟩ := hF
                refine kcV (ci := 4) (q0 := 0) (As := []) (rest := []) E.1 (cx4_tickOn E am (M.1 4 0) (M.1 4 1) (M.1 4 2) M.2 (M.1 0) hs70006) hX (cwV 0 hts gX4_fate_X4_tickOn rfl rfl rfl hdX4_tickOn ⟨Nat.le_of_ble_eq_true rfl, Nat.le_of_ble_eq_true rfl⟩) hKs hK hP hD hS hA _ _ (md_mn cI am M) (md_mn' cI am M _) rfl rfl rfl rfl hl.1 (Nat.le_of_ble_eq_true rfl) dX4_fate_88 ⟨Nat.zero_le _, Nat.zero_le _⟩ (fun H locs hP hD hS => ?_)
                have hP : va_P D vwCl (mdW cI am (va_up M.1 0 (fx4_tickOn (M.1 0)), M.2)) H := hP
                have hD : va_D A (mdW cI am (va_up M.1 0 (fx4_tickOn (M.1 0)), M.2)) := hD
                obtain ⟨M70005, hR, hF, hP, hD⟩ := kgenF (P := fun X9 => va_P D vwCl (mdW cI am X9) H ∧ va_D A (mdW cI am X9)) hR hF ⟨hP, hD⟩
                refine lv_iinc (v := y2 + 1) (lv' := [(2, .int (y2 + 1)), (1, .int y1), (0, .ref (am 0))]) hx hb dX4_fate_91 hl (k := 1) rfl rfl (by decide) rfl (fun ls hl => ?_)
                refine lv_goto (tgt := 69) hx hb dX4_fate_94 (by decide) ?_
                exact ih69 y1 (y2 + 1) M70005 _ _ ls hR hF hP hD hS (lv_sub hl [1, 0, 2] rfl)
        exact loop69 kfu x1 0 M18 _ _ ls hR hF hP hD hS (lv_sub hl [2, 0, 1] rfl)
    · rw [if_neg c13] at hR hF
      refine lv_iconst (v := 0) hx hb dX4_fate_21 (by decide) ?_
      subst hR
      exact krI hx hb hr hlk hP hD hS dX4_fate_22 rfl rfl
  · rw [if_pos c2] at hR hF
    refine lv_iconst (v := 1) hx hb dX4_fate_10 (by decide) ?_
    refine lv_goto (tgt := 15) hx hb dX4_fate_11 (by decide) ?_
    refine kcI (ci := 4) (q0 := 0) (As := [.int 1]) (rest := []) E.1 (cx4_refused E am M 1) hX (cwV 1 hts gX4_fate_X4_refused rfl rfl rfl hdX4_refused ⟨Nat.le_of_ble_eq_true rfl, Nat.le_of_ble_eq_true rfl⟩) hKs hK hP hD hS hA _ _ (kw_self _) (kw_self _).symm rfl rfl rfl rfl hl.1 (Nat.le_of_ble_eq_true rfl) dX4_fate_15 ⟨Nat.zero_le _, Nat.zero_le _⟩ (fun H locs hP hD hS => ?_)
    have hP : va_P D vwCl (mdW cI am ((fx4_refused M 1).2)) H := hP
    have hD : va_D A (mdW cI am ((fx4_refused M 1).2)) := hD
    generalize eu3 : fx4_refused M 1 = u3 at hR hF hP hD ⊢
    replace hR := bnd_e hR
    replace hF := bnd_p hF
    refine lv_if_eq (tgt := 23) hx hb dX4_fate_18 (by decide) (fun c4 => ?_) (fun c4 => ?_)
    · rw [if_pos c4] at hR hF
      refine lv_aload_n hx hb dX4_fate_23 rfl (lv_at hl 0 rfl) ?_
      obtain ⟨hs11, hF⟩ := hF
      refine kcV (ci := 4) (q0 := 0) (As := []) (rest := []) E.1 (cx4_laysAside E am u3.2 hs11) hX (cwV 0 hts gX4_fate_X4_laysAside rfl rfl rfl hdX4_laysAside ⟨Nat.le_of_ble_eq_true rfl, Nat.le_of_ble_eq_true rfl⟩) hKs hK hP hD hS hA _ _ (kw_self _) (kw_self _).symm rfl rfl rfl rfl hl.1 (Nat.le_of_ble_eq_true rfl) dX4_fate_24 ⟨Nat.zero_le _, Nat.zero_le _⟩ (fun H locs hP hD hS => ?_)
      have hP : va_P D vwCl (mdW cI am (fx4_laysAside u3.2)) H := hP
      have hD : va_D A (mdW cI am (fx4_laysAside u3.2)) := hD
      obtain ⟨M5, hR, hF, hP, hD⟩ := kgenF (P := fun X9 => va_P D vwCl (mdW cI am X9) H ∧ va_D A (mdW cI am X9)) hR hF ⟨hP, hD⟩
      refine lv_aload_n hx hb dX4_fate_27 rfl (lv_at hl 0 rfl) ?_
      refine va_get (D := D) (ci := 4) (v := .ref (am 1)) (C := RX4) (T := TX4) (N := 8) hx hb hts hinX4 hown hK hP 0 rfl rfl 0 (by decide) q1 (fun _ h9 => h9) rfl dX4_fate_28 ?_
      refine lv_sipush (v := 1202) hx hb dX4_fate_31 (by decide) ?_
      refine lv_iload_n hx hb dX4_fate_34 rfl (lv_at hl 1 rfl) ?_
      refine va_iast hx hb hK hP hD hS 1 0 rfl rfl (kin_lit (j := 1202) (n := 1203) (by decide) (by decide)) dX4_fate_35 (fun H locs hP hD hS => ?_)
      have hP : va_P D vwCl (mdW cI am (va_up M5.1 0 (upd (M5.1 0) 1202 x1), M5.2)) H := hP
      have hD : va_D A (mdW cI am (va_up M5.1 0 (upd (M5.1 0) 1202 x1), M5.2)) := hD
      obtain ⟨M6, hR, hF, hP, hD⟩ := kgenF (P := fun X9 => va_P D vwCl (mdW cI am X9) H ∧ va_D A (mdW cI am X9)) hR hF ⟨hP, hD⟩
      refine lv_aload_n hx hb dX4_fate_36 rfl (lv_at hl 0 rfl) ?_
      refine va_get (D := D) (ci := 4) (v := .ref (am 1)) (C := RX4) (T := TX4) (N := 8) hx hb hts hinX4 hown hK hP 0 rfl rfl 0 (by decide) q1 (fun _ h9 => h9) rfl dX4_fate_37 ?_
      refine lv_sipush (v := 1201) hx hb dX4_fate_40 (by decide) ?_
      refine lv_iconst (v := 0) hx hb dX4_fate_43 (by decide) ?_
      refine va_iast hx hb hK hP hD hS 1 0 rfl rfl (kin_lit (j := 1201) (n := 1203) (by decide) (by decide)) dX4_fate_44 (fun H locs hP hD hS => ?_)
      have hP : va_P D vwCl (mdW cI am (va_up M6.1 0 (upd (M6.1 0) 1201 0), M6.2)) H := hP
      have hD : va_D A (mdW cI am (va_up M6.1 0 (upd (M6.1 0) 1201 0), M6.2)) := hD
      obtain ⟨M7, hR, hF, hP, hD⟩ := kgenF (P := fun X9 => va_P D vwCl (mdW cI am X9) H ∧ va_D A (mdW cI am X9)) hR hF ⟨hP, hD⟩
      refine lv_aload_n hx hb dX4_fate_45 rfl (lv_at hl 0 rfl) ?_
      refine va_get (D := D) (ci := 4) (v := .ref (am 1)) (C := RX4) (T := TX4) (N := 8) hx hb hts hinX4 hown hK hP 0 rfl rfl 0 (by decide) q1 (fun _ h9 => h9) rfl dX4_fate_46 ?_
      refine lv_bipush (v := 15) hx hb dX4_fate_49 (by decide) ?_
      refine lv_aload_n hx hb dX4_fate_51 rfl (lv_at hl 0 rfl) ?_
      refine va_get (D := D) (ci := 4) (v := .ref (am 1)) (C := RX4) (T := TX4) (N := 8) hx hb hts hinX4 hown hK hP 0 rfl rfl 0 (by decide) q1 (fun _ h9 => h9) rfl dX4_fate_52 ?_
      refine lv_bipush (v := 16) hx hb dX4_fate_55 (by decide) ?_
      refine va_iald hx hb hK hP 1 0 rfl rfl (kin_lit (j := 16) (n := 1203) (by decide) (by decide)) dX4_fate_57 ?_
      refine kw_top (v := .int ((M7.1 0) 16)) rfl ?_
      refine lv_if_ne (tgt := 65) hx hb dX4_fate_58 (by decide) (fun c8 => ?_) (fun c8 => ?_)
      · rw [if_neg c8] at hR hF
        refine lv_iconst (v := 0) hx hb dX4_fate_65 (by decide) ?_
        refine va_iast hx hb hK hP hD hS 1 0 rfl rfl (kin_lit (j := 15) (n := 1203) (by decide) (by decide)) dX4_fate_66 (fun H locs hP hD hS => ?_)
        have hP : va_P D vwCl (mdW cI am (va_up M7.1 0 (upd (M7.1 0) 15 0), M7.2)) H := hP
        have hD : va_D A (mdW cI am (va_up M7.1 0 (upd (M7.1 0) 15 0), M7.2)) := hD
        obtain ⟨M10, hR, hF, hP, hD⟩ := kgenF (P := fun X9 => va_P D vwCl (mdW cI am X9) H ∧ va_D A (mdW cI am X9)) hR hF ⟨hP, hD⟩
        refine lv_iconst (v := 0) hx hb dX4_fate_67 (by decide) ?_
        refine lv_istore_n (lv' := [(2, .int 0), (0, .ref (am 0)), (1, .int x1)]) hx hb dX4_fate_68 rfl hl (by decide) rfl (fun ls hl => ?_)
        have loop69 : ∀ (n69 : Nat) (y1 : Int32) (y2 : Int32) (M : Md) (H : Heap) (locs : List Loc) (ls : Array Slot), fx4_fate_L69 n69 y1 y2 M = R → sx4_fate_L69 n69 y1 y2 M → va_P D vwCl (mdW cI am M) H → va_D A (mdW cI am M) → va_S A s.heap H locs → lv_has ls 3 [(1, .int y1), (2, .int y2), (0, .ref (am 0))] → W p l e (kRm 6 136) s m ([.ref (am 0), .int x1] : List Value).toArray below meth c H locs 0 0 (kQI D below R.1 (mdW cI am R.2) A ([.ref (am 0), .int x1] : List Value).toArray s) (F0 m 69 ls []) := by
          intro n69
          induction n69 with
          | zero => intro y1 y2 M H locs ls hR hF; exact hF.elim
          | succ n69 ih69 =>
            intro y1 y2 M H locs ls hR hF hP hD hS hl
            rw [fx4_fate_L69] at hR
            rw [sx4_fate_L69] at hF
            refine lv_iload_n hx hb dX4_fate_69 rfl (lv_at hl 1 rfl) ?_
            refine lv_sipush (v := 1000) hx hb dX4_fate_70 (by decide) ?_
            refine lv_icmp_ge (tgt := 97) hx hb dX4_fate_73 (by decide) (fun c70001 => ?_) (fun c70001 => ?_)
            · rw [if_pos c70001] at hR hF
              refine lv_aload_n hx hb dX4_fate_97 rfl (lv_at hl 2 rfl) ?_
              refine va_get (D := D) (ci := 4) (v := .ref (am 1)) (C := RX4) (T := TX4) (N := 8) hx hb hts hinX4 hown hK hP 0 rfl rfl 0 (by decide) q1 (fun _ h9 => h9) rfl dX4_fate_98 ?_
              refine lv_sipush (v := 1201) hx hb dX4_fate_101 (by decide) ?_
              refine va_iald hx hb hK hP 1 0 rfl rfl (kin_lit (j := 1201) (n := 1203) (by decide) (by decide)) dX4_fate_104 ?_
              refine kw_top (v := .int ((M.1 0) 1201)) rfl ?_
              refine lv_istore_n (lv' := [(2, .int ((M.1 0) 1201)), (1, .int y1), (0, .ref (am 0))]) hx hb dX4_fate_105 rfl hl (by decide) rfl (fun ls hl => ?_)
              refine lv_aload_n hx hb dX4_fate_106 rfl (lv_at hl 2 rfl) ?_
              have hs70003 := hF
              refine kcV (ci := 4) (q0 := 0) (As := []) (rest := []) E.1 (cx4_takesBack E am M hs70003) hX (cwV 0 hts gX4_fate_X4_takesBack rfl rfl rfl hdX4_takesBack ⟨Nat.le_of_ble_eq_true rfl, Nat.le_of_ble_eq_true rfl⟩) hKs hK hP hD hS hA _ _ (kw_self _) (kw_self _).symm rfl rfl rfl rfl hl.1 (Nat.le_of_ble_eq_true rfl) dX4_fate_107 ⟨Nat.zero_le _, Nat.zero_le _⟩ (fun H locs hP hD hS => ?_)
              have hP : va_P D vwCl (mdW cI am (fx4_takesBack M)) H := hP
              have hD : va_D A (mdW cI am (fx4_takesBack M)) := hD
              obtain ⟨M70002, hR, hP, hD⟩ := kgen (P := fun X9 => va_P D vwCl (mdW cI am X9) H ∧ va_D A (mdW cI am X9)) hR ⟨hP, hD⟩
              refine lv_iload_n hx hb dX4_fate_110 rfl (lv_at hl 0 rfl) ?_
              subst hR
              exact krI hx hb hr hlk hP hD hS dX4_fate_111 rfl rfl
            · rw [if_neg c70001] at hR hF
              refine lv_aload_n hx hb dX4_fate_76 rfl (lv_at hl 2 rfl) ?_
              refine va_get (D := D) (ci := 4) (v := .ref (am 1)) (C := RX4) (T := TX4) (N := 8) hx hb hts hinX4 hown hK hP 0 rfl rfl 0 (by decide) q1 (fun _ h9 => h9) rfl dX4_fate_77 ?_
              refine lv_sipush (v := 1201) hx hb dX4_fate_80 (by decide) ?_
              refine va_iald hx hb hK hP 1 0 rfl rfl (kin_lit (j := 1201) (n := 1203) (by decide) (by decide)) dX4_fate_83 ?_
              refine kw_top (v := .int ((M.1 0) 1201)) rfl ?_
              refine lv_if_ne (tgt := 97) hx hb dX4_fate_84 (by decide) (fun c70004 => ?_) (fun c70004 => ?_)
              · rw [if_neg c70004] at hR hF
                refine lv_aload_n hx hb dX4_fate_97 rfl (lv_at hl 2 rfl) ?_
                refine va_get (D := D) (ci := 4) (v := .ref (am 1)) (C := RX4) (T := TX4) (N := 8) hx hb hts hinX4 hown hK hP 0 rfl rfl 0 (by decide) q1 (fun _ h9 => h9) rfl dX4_fate_98 ?_
                refine lv_sipush (v := 1201) hx hb dX4_fate_101 (by decide) ?_
                refine va_iald hx hb hK hP 1 0 rfl rfl (kin_lit (j := 1201) (n := 1203) (by decide) (by decide)) dX4_fate_104 ?_
                refine kw_top (v := .int ((M.1 0) 1201)) rfl ?_
                refine lv_istore_n (lv' := [(2, .int ((M.1 0) 1201)), (1, .int y1), (0, .ref (am 0))]) hx hb dX4_fate_105 rfl hl (by decide) rfl (fun ls hl => ?_)
                refine lv_aload_n hx hb dX4_fate_106 rfl (lv_at hl 2 rfl) ?_
                have hs70008 := hF
                refine kcV (ci := 4) (q0 := 0) (As := []) (rest := []) E.1 (cx4_takesBack E am M hs70008) hX (cwV 0 hts gX4_fate_X4_takesBack rfl rfl rfl hdX4_takesBack ⟨Nat.le_of_ble_eq_true rfl, Nat.le_of_ble_eq_true rfl⟩) hKs hK hP hD hS hA _ _ (kw_self _) (kw_self _).symm rfl rfl rfl rfl hl.1 (Nat.le_of_ble_eq_true rfl) dX4_fate_107 ⟨Nat.zero_le _, Nat.zero_le _⟩ (fun H locs hP hD hS => ?_)
                have hP : va_P D vwCl (mdW cI am (fx4_takesBack M)) H := hP
                have hD : va_D A (mdW cI am (fx4_takesBack M)) := hD
                obtain ⟨M70007, hR, hP, hD⟩ := kgen (P := fun X9 => va_P D vwCl (mdW cI am X9) H ∧ va_D A (mdW cI am X9)) hR ⟨hP, hD⟩
                refine lv_iload_n hx hb dX4_fate_110 rfl (lv_at hl 0 rfl) ?_
                subst hR
                exact krI hx hb hr hlk hP hD hS dX4_fate_111 rfl rfl
              · rw [if_pos c70004] at hR hF
                refine lv_aload_n hx hb dX4_fate_87 rfl (lv_at hl 2 rfl) ?_
                obtain ⟨hs70006, hF⟩ := hF
                refine kcV (ci := 4) (q0 := 0) (As := []) (rest := []) E.1 (cx4_tickOn E am (M.1 4 0) (M.1 4 1) (M.1 4 2) M.2 (M.1 0) hs70006) hX (cwV 0 hts gX4_fate_X4_tickOn rfl rfl rfl hdX4_tickOn ⟨Nat.le_of_ble_eq_true rfl, Nat.le_of_ble_eq_true rfl⟩) hKs hK hP hD hS hA _ _ (md_mn cI am M) (md_mn' cI am M _) rfl rfl rfl rfl hl.1 (Nat.le_of_ble_eq_true rfl) dX4_fate_88 ⟨Nat.zero_le _, Nat.zero_le _⟩ (fun H locs hP hD hS => ?_)
                have hP : va_P D vwCl (mdW cI am (va_up M.1 0 (fx4_tickOn (M.1 0)), M.2)) H := hP
                have hD : va_D A (mdW cI am (va_up M.1 0 (fx4_tickOn (M.1 0)), M.2)) := hD
                obtain ⟨M70005, hR, hF, hP, hD⟩ := kgenF (P := fun X9 => va_P D vwCl (mdW cI am X9) H ∧ va_D A (mdW cI am X9)) hR hF ⟨hP, hD⟩
                refine lv_iinc (v := y2 + 1) (lv' := [(2, .int (y2 + 1)), (1, .int y1), (0, .ref (am 0))]) hx hb dX4_fate_91 hl (k := 1) rfl rfl (by decide) rfl (fun ls hl => ?_)
                refine lv_goto (tgt := 69) hx hb dX4_fate_94 (by decide) ?_
                exact ih69 y1 (y2 + 1) M70005 _ _ ls hR hF hP hD hS (lv_sub hl [1, 0, 2] rfl)
        exact loop69 kfu x1 0 M10 _ _ ls hR hF hP hD hS (lv_sub hl [2, 0, 1] rfl)
      · rw [if_pos c8] at hR hF
        refine lv_iconst (v := 1) hx hb dX4_fate_61 (by decide) ?_
        refine lv_goto (tgt := 66) hx hb dX4_fate_62 (by decide) ?_
        refine va_iast hx hb hK hP hD hS 1 0 rfl rfl (kin_lit (j := 15) (n := 1203) (by decide) (by decide)) dX4_fate_66 (fun H locs hP hD hS => ?_)
        have hP : va_P D vwCl (mdW cI am (va_up M7.1 0 (upd (M7.1 0) 15 1), M7.2)) H := hP
        have hD : va_D A (mdW cI am (va_up M7.1 0 (upd (M7.1 0) 15 1), M7.2)) := hD
        obtain ⟨M9, hR, hF, hP, hD⟩ := kgenF (P := fun X9 => va_P D vwCl (mdW cI am X9) H ∧ va_D A (mdW cI am X9)) hR hF ⟨hP, hD⟩
        refine lv_iconst (v := 0) hx hb dX4_fate_67 (by decide) ?_
        refine lv_istore_n (lv' := [(2, .int 0), (0, .ref (am 0)), (1, .int x1)]) hx hb dX4_fate_68 rfl hl (by decide) rfl (fun ls hl => ?_)
        have loop69 : ∀ (n69 : Nat) (y1 : Int32) (y2 : Int32) (M : Md) (H : Heap) (locs : List Loc) (ls : Array Slot), fx4_fate_L69 n69 y1 y2 M = R → sx4_fate_L69 n69 y1 y2 M → va_P D vwCl (mdW cI am M) H → va_D A (mdW cI am M) → va_S A s.heap H locs → lv_has ls 3 [(1, .int y1), (2, .int y2), (0, .ref (am 0))] → W p l e (kRm 6 136) s m ([.ref (am 0), .int x1] : List Value).toArray below meth c H locs 0 0 (kQI D below R.1 (mdW cI am R.2) A ([.ref (am 0), .int x1] : List Value).toArray s) (F0 m 69 ls []) := by
          intro n69
          induction n69 with
          | zero => intro y1 y2 M H locs ls hR hF; exact hF.elim
          | succ n69 ih69 =>
            intro y1 y2 M H locs ls hR hF hP hD hS hl
            rw [fx4_fate_L69] at hR
            rw [sx4_fate_L69] at hF
            refine lv_iload_n hx hb dX4_fate_69 rfl (lv_at hl 1 rfl) ?_
            refine lv_sipush (v := 1000) hx hb dX4_fate_70 (by decide) ?_
            refine lv_icmp_ge (tgt := 97) hx hb dX4_fate_73 (by decide) (fun c70001 => ?_) (fun c70001 => ?_)
            · rw [if_pos c70001] at hR hF
              refine lv_aload_n hx hb dX4_fate_97 rfl (lv_at hl 2 rfl) ?_
              refine va_get (D := D) (ci := 4) (v := .ref (am 1)) (C := RX4) (T := TX4) (N := 8) hx hb hts hinX4 hown hK hP 0 rfl rfl 0 (by decide) q1 (fun _ h9 => h9) rfl dX4_fate_98 ?_
              refine lv_sipush (v := 1201) hx hb dX4_fate_101 (by decide) ?_
              refine va_iald hx hb hK hP 1 0 rfl rfl (kin_lit (j := 1201) (n := 1203) (by decide) (by decide)) dX4_fate_104 ?_
              refine kw_top (v := .int ((M.1 0) 1201)) rfl ?_
              refine lv_istore_n (lv' := [(2, .int ((M.1 0) 1201)), (1, .int y1), (0, .ref (am 0))]) hx hb dX4_fate_105 rfl hl (by decide) rfl (fun ls hl => ?_)
              refine lv_aload_n hx hb dX4_fate_106 rfl (lv_at hl 2 rfl) ?_
              have hs70003 := hF
              refine kcV (ci := 4) (q0 := 0) (As := []) (rest := []) E.1 (cx4_takesBack E am M hs70003) hX (cwV 0 hts gX4_fate_X4_takesBack rfl rfl rfl hdX4_takesBack ⟨Nat.le_of_ble_eq_true rfl, Nat.le_of_ble_eq_true rfl⟩) hKs hK hP hD hS hA _ _ (kw_self _) (kw_self _).symm rfl rfl rfl rfl hl.1 (Nat.le_of_ble_eq_true rfl) dX4_fate_107 ⟨Nat.zero_le _, Nat.zero_le _⟩ (fun H locs hP hD hS => ?_)
              have hP : va_P D vwCl (mdW cI am (fx4_takesBack M)) H := hP
              have hD : va_D A (mdW cI am (fx4_takesBack M)) := hD
              obtain ⟨M70002, hR, hP, hD⟩ := kgen (P := fun X9 => va_P D vwCl (mdW cI am X9) H ∧ va_D A (mdW cI am X9)) hR ⟨hP, hD⟩
              refine lv_iload_n hx hb dX4_fate_110 rfl (lv_at hl 0 rfl) ?_
              subst hR
              exact krI hx hb hr hlk hP hD hS dX4_fate_111 rfl rfl
            · rw [if_neg c70001] at hR hF
              refine lv_aload_n hx hb dX4_fate_76 rfl (lv_at hl 2 rfl) ?_
              refine va_get (D := D) (ci := 4) (v := .ref (am 1)) (C := RX4) (T := TX4) (N := 8) hx hb hts hinX4 hown hK hP 0 rfl rfl 0 (by decide) q1 (fun _ h9 => h9) rfl dX4_fate_77 ?_
              refine lv_sipush (v := 1201) hx hb dX4_fate_80 (by decide) ?_
              refine va_iald hx hb hK hP 1 0 rfl rfl (kin_lit (j := 1201) (n := 1203) (by decide) (by decide)) dX4_fate_83 ?_
              refine kw_top (v := .int ((M.1 0) 1201)) rfl ?_
              refine lv_if_ne (tgt := 97) hx hb dX4_fate_84 (by decide) (fun c70004 => ?_) (fun c70004 => ?_)
              · rw [if_neg c70004] at hR hF
                refine lv_aload_n hx hb dX4_fate_97 rfl (lv_at hl 2 rfl) ?_
                refine va_get (D := D) (ci := 4) (v := .ref (am 1)) (C := RX4) (T := TX4) (N := 8) hx hb hts hinX4 hown hK hP 0 rfl rfl 0 (by decide) q1 (fun _ h9 => h9) rfl dX4_fate_98 ?_
                refine lv_sipush (v := 1201) hx hb dX4_fate_101 (by decide) ?_
                refine va_iald hx hb hK hP 1 0 rfl rfl (kin_lit (j := 1201) (n := 1203) (by decide) (by decide)) dX4_fate_104 ?_
                refine kw_top (v := .int ((M.1 0) 1201)) rfl ?_
                refine lv_istore_n (lv' := [(2, .int ((M.1 0) 1201)), (1, .int y1), (0, .ref (am 0))]) hx hb dX4_fate_105 rfl hl (by decide) rfl (fun ls hl => ?_)
                refine lv_aload_n hx hb dX4_fate_106 rfl (lv_at hl 2 rfl) ?_
                have hs70008 := hF
                refine kcV (ci := 4) (q0 := 0) (As := []) (rest := []) E.1 (cx4_takesBack E am M hs70008) hX (cwV 0 hts gX4_fate_X4_takesBack rfl rfl rfl hdX4_takesBack ⟨Nat.le_of_ble_eq_true rfl, Nat.le_of_ble_eq_true rfl⟩) hKs hK hP hD hS hA _ _ (kw_self _) (kw_self _).symm rfl rfl rfl rfl hl.1 (Nat.le_of_ble_eq_true rfl) dX4_fate_107 ⟨Nat.zero_le _, Nat.zero_le _⟩ (fun H locs hP hD hS => ?_)
                have hP : va_P D vwCl (mdW cI am (fx4_takesBack M)) H := hP
                have hD : va_D A (mdW cI am (fx4_takesBack M)) := hD
                obtain ⟨M70007, hR, hP, hD⟩ := kgen (P := fun X9 => va_P D vwCl (mdW cI am X9) H ∧ va_D A (mdW cI am X9)) hR ⟨hP, hD⟩
                refine lv_iload_n hx hb dX4_fate_110 rfl (lv_at hl 0 rfl) ?_
                subst hR
                exact krI hx hb hr hlk hP hD hS dX4_fate_111 rfl rfl
              · rw [if_pos c70004] at hR hF
                refine lv_aload_n hx hb dX4_fate_87 rfl (lv_at hl 2 rfl) ?_
                obtain ⟨hs70006, hF⟩ := hF
                refine kcV (ci := 4) (q0 := 0) (As := []) (rest := []) E.1 (cx4_tickOn E am (M.1 4 0) (M.1 4 1) (M.1 4 2) M.2 (M.1 0) hs70006) hX (cwV 0 hts gX4_fate_X4_tickOn rfl rfl rfl hdX4_tickOn ⟨Nat.le_of_ble_eq_true rfl, Nat.le_of_ble_eq_true rfl⟩) hKs hK hP hD hS hA _ _ (md_mn cI am M) (md_mn' cI am M _) rfl rfl rfl rfl hl.1 (Nat.le_of_ble_eq_true rfl) dX4_fate_88 ⟨Nat.zero_le _, Nat.zero_le _⟩ (fun H locs hP hD hS => ?_)
                have hP : va_P D vwCl (mdW cI am (va_up M.1 0 (fx4_tickOn (M.1 0)), M.2)) H := hP
                have hD : va_D A (mdW cI am (va_up M.1 0 (fx4_tickOn (M.1 0)), M.2)) := hD
                obtain ⟨M70005, hR, hF, hP, hD⟩ := kgenF (P := fun X9 => va_P D vwCl (mdW cI am X9) H ∧ va_D A (mdW cI am X9)) hR hF ⟨hP, hD⟩
                refine lv_iinc (v := y2 + 1) (lv' := [(2, .int (y2 + 1)), (1, .int y1), (0, .ref (am 0))]) hx hb dX4_fate_91 hl (k := 1) rfl rfl (by decide) rfl (fun ls hl => ?_)
                refine lv_goto (tgt := 69) hx hb dX4_fate_94 (by decide) ?_
                exact ih69 y1 (y2 + 1) M70005 _ _ ls hR hF hP hD hS (lv_sub hl [1, 0, 2] rfl)
        exact loop69 kfu x1 0 M9 _ _ ls hR hF hP hD hS (lv_sub hl [2, 0, 1] rfl)
    · rw [if_neg c4] at hR hF
      refine lv_iconst (v := 0) hx hb dX4_fate_21 (by decide) ?_
      subst hR
      exact krI hx hb hr hlk hP hD hS dX4_fate_22 rfl rfl

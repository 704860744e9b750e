/-! the model, whole: printed by my own program (gen.py) out of the listing -/
theorem hdX4_fate : yX4_fate.cls = RX4 ∧ yX4_fate.cls ≠ "java/lang/invoke/MethodHandle" ∧ yX4_fate.cls ≠ "java/lang/invoke/VarHandle" ∧ (parseMethodDescriptor yX4_fate.desc).map (fun d => d.parameters.length) = some 1 := by decide +kernel
def fx4_fate_L69 : Nat → Int32 → Int32 → Md → Int32 × (Md)
  | 0, _, _, M => (0, M)
  | n69 + 1, y1, y2, M => (if 1000 ≤ y2 then (bnd (fx4_takesBack M) (fun M70002 => ((M.1 0) 1201, M70002))) else (if ((M.1 0) 1201) = 0 then (bnd (fx4_tickOn (M.1 0)) (fun M70005 => fx4_fate_L69 n69 y1 (y2 + 1) (va_up M.1 0 M70005, M.2))) else (bnd (fx4_takesBack M) (fun M70007 => ((M.1 0) 1201, M70007)))))
def sx4_fate_L69 : Nat → Int32 → Int32 → Md → Prop
  | 0, _, _, _ => False
  | n69 + 1, y1, y2, M => (if 1000 ≤ y2 then sx4_takesBack M else (if ((M.1 0) 1201) = 0 then (sx4_tickOn (M.1 0) ∧ (bnd (fx4_tickOn (M.1 0)) (fun M70005 => sx4_fate_L69 n69 y1 (y2 + 1) (va_up M.1 0 M70005, M.2)))) else sx4_takesBack M))
def fx4_fate (M : Md) (x1 : Int32) : Int32 × (Md) := (bnd (fx4_recordOf (M.1 0) x1) (fun v1 => (if v1 = (-1) then (bnd (fx4_refused M 1) (fun u3 => (if u3.1 = 0 then (bnd (fx4_laysAside u3.2) (fun M5 => (bnd (upd (M5.1 0) 1202 x1) (fun g6 => (bnd (upd g6 1201 0) (fun g7 => (if (g7 16) = 0 then (bnd (upd g7 15 1) (fun g9 => fx4_fate_L69 kfu x1 0 (va_up (va_up (va_up M5.1 0 g6) 0 g7) 0 g9, M5.2))) else (bnd (upd g7 15 0) (fun g10 => fx4_fate_L69 kfu x1 0 (va_up (va_up (va_up M5.1 0 g6) 0 g7) 0 g10, M5.2)))))))))) else (0, u3.2)))) else (bnd (fx4_refused M 0) (fun u12 => (if u12.1 = 0 then (bnd (fx4_laysAside u12.2) (fun M14 => (bnd (upd (M14.1 0) 1202 x1) (fun g15 => (bnd (upd g15 1201 0) (fun g16 => (if (g16 16) = 0 then (bnd (upd g16 15 1) (fun g18 => fx4_fate_L69 kfu x1 0 (va_up (va_up (va_up M14.1 0 g15) 0 g16) 0 g18, M14.2))) else (bnd (upd g16 15 0) (fun g19 => fx4_fate_L69 kfu x1 0 (va_up (va_up (va_up M14.1 0 g15) 0 g16) 0 g19, M14.2)))))))))) else (0, u12.2)))))))
def sx4_fate (M : Md) (x1 : Int32) : Prop := (sx4_recordOf (M.1 0) x1 ∧ (bnd (fx4_recordOf (M.1 0) x1) (fun v1 => (if v1 = (-1) then (bnd (fx4_refused M 1) (fun u3 => (if u3.1 = 0 then (sx4_laysAside u3.2 ∧ (bnd (fx4_laysAside u3.2) (fun M5 => (bnd (upd (M5.1 0) 1202 x1) (fun g6 => (bnd (upd g6 1201 0) (fun g7 => (if (g7 16) = 0 then (bnd (upd g7 15 1) (fun g9 => sx4_fate_L69 kfu x1 0 (va_up (va_up (va_up M5.1 0 g6) 0 g7) 0 g9, M5.2))) else (bnd (upd g7 15 0) (fun g10 => sx4_fate_L69 kfu x1 0 (va_up (va_up (va_up M5.1 0 g6) 0 g7) 0 g10, M5.2))))))))))) else True))) else (bnd (fx4_refused M 0) (fun u12 => (if u12.1 = 0 then (sx4_laysAside u12.2 ∧ (bnd (fx4_laysAside u12.2) (fun M14 => (bnd (upd (M14.1 0) 1202 x1) (fun g15 => (bnd (upd g15 1201 0) (fun g16 => (if (g16 16) = 0 then (bnd (upd g16 15 1) (fun g18 => sx4_fate_L69 kfu x1 0 (va_up (va_up (va_up M14.1 0 g15) 0 g16) 0 g18, M14.2))) else (bnd (upd g16 15 0) (fun g19 => sx4_fate_L69 kfu x1 0 (va_up (va_up (va_up M14.1 0 g15) 0 g16) 0 g19, M14.2))))))))))) else True)))))))
set_option maxHeartbeats 4000000 in
set_option maxRecDepth 100000 in
theorem cx4_fate {l : Launch} {D : va_G} {cI cB cS cJ : ClassId} {K : State → Prop} (E : kE D cI cB cS cJ K) (am : Nat → Nat) (M : Md) (x1 : Int32) (hF : sx4_fate M x1) : kI l D K yX4_fate wsX4_fate 6 136 [.ref (am 0), .int x1] (mdW cI am M) (fx4_fate M x1).1 (mdW cI am ((fx4_fate M x1).2)) := by
  refine kI_of (own := RX4) (cc := cX4_fate) (maxL := 3) (tys := kty cI cB cS cJ) (fun U h => (E.2 U h).1) (by decide) rfl rfl (Nat.le_of_ble_eq_true rfl) ?_
  intro p e s m below meth c A ls hx hb hr hml hts hown hlk hKs hK hP hD hA hS hl
  have hl : lv_has ls 3 [(0, .ref (am 0)), (1, .int x1)] := hl
  have hX : CallFix p m c cX4_fate 3 s _ wsX4_fate RX4 := ⟨hx, hb, hml, hown, hts⟩
  have hinX4 : ∀ w ∈ wsX40, w ∈ wsX4_fate := fun w h => List.mem_cons_of_mem _ (List.mem_append_right _ h)
  have q1 := hts (.fieldLink RX4 7 "LabelStationModel" "now" "[I") (List.mem_of_getElem? (i := 1) rfl)
  generalize hR : fx4_fate M x1 = R
  rw [fx4_fate] at hR
  rw [sx4_fate] at hF
  refine lv_aload_n hx hb dX4_fate_0 rfl (lv_at hl 0 rfl) ?_
  refine lv_aload_n hx hb dX4_fate_1 rfl (lv_at hl 0 rfl) ?_
  refine lv_iload_n hx hb dX4_fate_2 rfl (lv_at hl 1 rfl) ?_
  obtain ⟨hs21, hF⟩ := hF
  refine kcI (ci := 4) (q0 := 0) (As := [.int x1]) (rest := [.ref (am 0)]) E.1 (cx4_recordOf E am (M.1 4 0) (M.1 4 1) (M.1 4 2) M.2 (M.1 0) x1 hs21) hX (cwV 1 hts gX4_fate_X4_recordOf rfl rfl rfl hdX4_recordOf ⟨Nat.le_of_ble_eq_true rfl, Nat.le_of_ble_eq_true rfl⟩) hKs hK hP hD hS hA _ _ (md_mn cI am M) (md_mn cI am M).symm rfl rfl rfl rfl hl.1 (Nat.le_of_ble_eq_true rfl) dX4_fate_3 ⟨Nat.zero_le _, Nat.zero_le _⟩ (fun H locs hP hD hS => ?_)
  generalize ev1 : fx4_recordOf (M.1 0) x1 = v1 at hR hF ⊢
  replace hR := bnd_e hR
  replace hF := bnd_p hF
  refine lv_iconst (v := (-1)) hx hb dX4_fate_6 (by decide) ?_
  refine lv_icmp_ne (tgt := 14) hx hb dX4_fate_7 (by decide) (fun c2 => ?_) (fun c2 => ?_)
  · rw [if_neg c2] at hR hF
    refine lv_iconst (v := 0) hx hb dX4_fate_14 (by decide) ?_
    refine kcI (ci := 4) (q0 := 0) (As := [.int 0]) (rest := []) E.1 (cx4_refused E am M 0) hX (cwV 1 hts gX4_fate_X4_refused rfl rfl rfl hdX4_refused ⟨Nat.le_of_ble_eq_true rfl, Nat.le_of_ble_eq_true rfl⟩) hKs hK hP hD hS hA _ _ (kw_self _) (kw_self _).symm rfl rfl rfl rfl hl.1 (Nat.le_of_ble_eq_true rfl) dX4_fate_15 ⟨Nat.zero_le _, Nat.zero_le _⟩ (fun H locs hP hD hS => ?_)
    have hP : va_P D vwCl (mdW cI am ((fx4_refused M 0).2)) H := hP
    have hD : va_D A (mdW cI am ((fx4_refused M 0).2)) := hD
    generalize eu12 : fx4_refused M 0 = u12 at hR hF hP hD ⊢
    replace hR := bnd_e hR
    replace hF := bnd_p hF
    refine lv_if_eq (tgt := 23) hx hb dX4_fate_18 (by decide) (fun c13 => ?_) (fun c13 => ?_)
    · rw [if_pos c13] at hR hF
      refine lv_aload_n hx hb dX4_fate_23 rfl (lv_at hl 0 rfl) ?_
      obtain ⟨hs20, hF⟩ := hF
      refine kcV (ci := 4) (q0 := 0) (As := []) (rest := []) E.1 (cx4_laysAside E am u12.2 hs20) hX (cwV 0 hts gX4_fate_X4_laysAside rfl rfl rfl hdX4_laysAside ⟨Nat.le_of_ble_eq_true rfl, Nat.le_of_ble_eq_true rfl⟩) hKs hK hP hD hS hA _ _ (kw_self _) (kw_self _).symm rfl rfl rfl rfl hl.1 (Nat.le_of_ble_eq_true rfl) dX4_fate_24 ⟨Nat.zero_le _, Nat.zero_le _⟩ (fun H locs hP hD hS => ?_)
      have hP : va_P D vwCl (mdW cI am (fx4_laysAside u12.2)) H := hP
      have hD : va_D A (mdW cI am (fx4_laysAside u12.2)) := hD
      generalize eM14 : fx4_laysAside u12.2 = M14 at hR hF hP hD
      replace hR := bnd_e hR
      replace hF := bnd_p hF
      refine lv_aload_n hx hb dX4_fate_27 rfl (lv_at hl 0 rfl) ?_
      refine va_get (D := D) (ci := 4) (v := .ref (am 1)) (C := RX4) (T := TX4) (N := 8) hx hb hts hinX4 hown hK hP 0 rfl rfl 0 (by decide) q1 (fun _ h9 => h9) rfl dX4_fate_28 ?_
      refine lv_sipush (v := 1202) hx hb dX4_fate_31 (by decide) ?_
      refine lv_iload_n hx hb dX4_fate_34 rfl (lv_at hl 1 rfl) ?_
      refine va_iast hx hb hK hP hD hS 1 0 rfl rfl (kin_lit (j := 1202) (n := 1203) (by decide) (by decide)) dX4_fate_35 (fun H locs hP hD hS => ?_)
      have hP : va_P D vwCl (mdW cI am (va_up M14.1 0 (upd (M14.1 0) 1202 x1), M14.2)) H := hP
      have hD : va_D A (mdW cI am (va_up M14.1 0 (upd (M14.1 0) 1202 x1), M14.2)) := hD
      generalize eg15 : upd (M14.1 0) 1202 x1 = g15 at hR hP hD hF
      replace hR := bnd_e hR
      replace hF := bnd_p hF
      refine lv_aload_n hx hb dX4_fate_36 rfl (lv_at hl 0 rfl) ?_
      refine va_get (D := D) (ci := 4) (v := .ref (am 1)) (C := RX4) (T := TX4) (N := 8) hx hb hts hinX4 hown hK hP 0 rfl rfl 0 (by decide) q1 (fun _ h9 => h9) rfl dX4_fate_37 ?_
      refine lv_sipush (v := 1201) hx hb dX4_fate_40 (by decide) ?_
      refine lv_iconst (v := 0) hx hb dX4_fate_43 (by decide) ?_
      refine va_iast hx hb hK hP hD hS 1 0 rfl rfl (kin_lit (j := 1201) (n := 1203) (by decide) (by decide)) dX4_fate_44 (fun H locs hP hD hS => ?_)
      have hP : va_P D vwCl (mdW cI am (va_up (va_up M14.1 0 g15) 0 (upd g15 1201 0), M14.2)) H := hP
      have hD : va_D A (mdW cI am (va_up (va_up M14.1 0 g15) 0 (upd g15 1201 0), M14.2)) := hD
      generalize eg16 : upd g15 1201 0 = g16 at hR hP hD hF
      replace hR := bnd_e hR
      replace hF := bnd_p hF
      refine lv_aload_n hx hb dX4_fate_45 rfl (lv_at hl 0 rfl) ?_
      refine va_get (D := D) (ci := 4) (v := .ref (am 1)) (C := RX4) (T := TX4) (N := 8) hx hb hts hinX4 hown hK hP 0 rfl rfl 0 (by decide) q1 (fun _ h9 => h9) rfl dX4_fate_46 ?_
      refine lv_bipush (v := 15) hx hb dX4_fate_49 (by decide) ?_
      refine lv_aload_n hx hb dX4_fate_51 rfl (lv_at hl 0 rfl) ?_
      refine va_get (D := D) (ci := 4) (v := .ref (am 1)) (C := RX4) (T := TX4) (N := 8) hx hb hts hinX4 hown hK hP 0 rfl rfl 0 (by decide) q1 (fun _ h9 => h9) rfl dX4_fate_52 ?_
      refine lv_bipush (v := 16) hx hb dX4_fate_55 (by decide) ?_
      refine va_iald hx hb hK hP 1 0 rfl rfl (kin_lit (j := 16) (n := 1203) (by decide) (by decide)) dX4_fate_57 ?_
      refine kw_top (v := .int (g16 16)) rfl ?_
      refine lv_if_ne (tgt := 65) hx hb dX4_fate_58 (by decide) (fun c17 => ?_) (fun c17 => ?_)
      · rw [if_neg c17] at hR hF
        refine lv_iconst (v := 0) hx hb dX4_fate_65 (by decide) ?_
        refine va_iast hx hb hK hP hD hS 1 0 rfl rfl (kin_lit (j := 15) (n := 1203) (by decide) (by decide)) dX4_fate_66 (fun H locs hP hD hS => ?_)
        have hP : va_P D vwCl (mdW cI am (va_up (va_up (va_up M14.1 0 g15) 0 g16) 0 (upd g16 15 0), M14.2)) H := hP
        have hD : va_D A (mdW cI am (va_up (va_up (va_up M14.1 0 g15) 0 g16) 0 (upd g16 15 0), M14.2)) := hD
        generalize eg19 : upd g16 15 0 = g19 at hR hP hD hF
        replace hR := bnd_e hR
        replace hF := bnd_p hF
        refine lv_iconst (v := 0) hx hb dX4_fate_67 (by decide) ?_
        refine lv_istore_n (lv' := [(2, .int 0), (0, .ref (am 0)), (1, .int x1)]) hx hb dX4_fate_68 rfl hl (by decide) rfl (fun ls hl => ?_)
        have loop69 : ∀ (n69 : Nat) (y1 : Int32) (y2 : Int32) (M : Md) (H : Heap) (locs : List Loc) (ls : Array Slot), fx4_fate_L69 n69 y1 y2 M = R → sx4_fate_L69 n69 y1 y2 M → va_P D vwCl (mdW cI am M) H → va_D A (mdW cI am M) → va_S A s.heap H locs → lv_has ls 3 [(1, .int y1), (2, .int y2), (0, .ref (am 0))] → W p l e (kRm 6 136) s m ([.ref (am 0), .int x1] : List Value).toArray below meth c H locs 0 0 (kQI D below R.1 (mdW cI am R.2) A ([.ref (am 0), .int x1] : List Value).toArray s) (F0 m 69 ls []) := by
          intro n69
          induction n69 with
          | zero => intro y1 y2 M H locs ls hR hF; exact hF.elim
          | succ n69 ih69 =>
            intro y1 y2 M H locs ls hR hF hP hD hS hl
            rw [fx4_fate_L69] at hR
            rw [sx4_fate_L69] at hF
            refine lv_iload_n hx hb dX4_fate_69 rfl (lv_at hl 1 rfl) ?_
            refine lv_sipush (v := 1000) hx hb dX4_fate_70 (by decide) ?_
            refine lv_icmp_ge (tgt := 97) hx hb dX4_fate_73 (by decide) (fun c70001 => ?_) (fun c70001 => ?_)
            · rw [if_pos c70001] at hR hF
              refine lv_aload_n hx hb dX4_fate_97 rfl (lv_at hl 2 rfl) ?_
              refine va_get (D := D) (ci := 4) (v := .ref (am 1)) (C := RX4) (T := TX4) (N := 8) hx hb hts hinX4 hown hK hP 0 rfl rfl 0 (by decide) q1 (fun _ h9 => h9) rfl dX4_fate_98 ?_
              refine lv_sipush (v := 1201) hx hb dX4_fate_101 (by decide) ?_
              refine va_iald hx hb hK hP 1 0 rfl rfl (kin_lit (j := 1201) (n := 1203) (by decide) (by decide)) dX4_fate_104 ?_
              refine kw_top (v := .int ((M.1 0) 1201)) rfl ?_
              refine lv_istore_n (lv' := [(2, .int ((M.1 0) 1201)), (1, .int y1), (0, .ref (am 0))]) hx hb dX4_fate_105 rfl hl (by decide) rfl (fun ls hl => ?_)
              refine lv_aload_n hx hb dX4_fate_106 rfl (lv_at hl 2 rfl) ?_
              have hs70003 := hF
              refine kcV (ci := 4) (q0 := 0) (As := []) (rest := []) E.1 (cx4_takesBack E am M hs70003) hX (cwV 0 hts gX4_fate_X4_takesBack rfl rfl rfl hdX4_takesBack ⟨Nat.le_of_ble_eq_true rfl, Nat.le_of_ble_eq_true rfl⟩) hKs hK hP hD hS hA _ _ (kw_self _) (kw_self _).symm rfl rfl rfl rfl hl.1 (Nat.le_of_ble_eq_true rfl) dX4_fate_107 ⟨Nat.zero_le _, Nat.zero_le _⟩ (fun H locs hP hD hS => ?_)
              have hP : va_P D vwCl (mdW cI am (fx4_takesBack M)) H := hP
              have hD : va_D A (mdW cI am (fx4_takesBack M)) := hD
              generalize eM70002 : fx4_takesBack M = M70002 at hR hP hD
              replace hR := bnd_e hR
              refine lv_iload_n hx hb dX4_fate_110 rfl (lv_at hl 0 rfl) ?_
              subst hR
              exact krI hx hb hr hlk hP hD hS dX4_fate_111 rfl rfl
            · rw [if_neg c70001] at hR hF
              refine lv_aload_n hx hb dX4_fate_76 rfl (lv_at hl 2 rfl) ?_
              refine va_get (D := D) (ci := 4) (v := .ref (am 1)) (C := RX4) (T := TX4) (N := 8) hx hb hts hinX4 hown hK hP 0 rfl rfl 0 (by decide) q1 (fun _ h9 => h9) rfl dX4_fate_77 ?_
              refine lv_sipush (v := 1201) hx hb dX4_fate_80 (by decide) ?_
              refine va_iald hx hb hK hP 1 0 rfl rfl (kin_lit (j := 1201) (n := 1203) (by decide) (by decide)) dX4_fate_83 ?_
              refine kw_top (v := .int ((M.1 0) 1201)) rfl ?_
              refine lv_if_ne (tgt := 97) hx hb dX4_fate_84 (by decide) (fun c70004 => ?_) (fun c70004 => ?_)
              · rw [if_neg c70004] at hR hF
                refine lv_aload_n hx hb dX4_fate_97 rfl (lv_at hl 2 rfl) ?_
                refine va_get (D := D) (ci := 4) (v := .ref (am 1)) (C := RX4) (T := TX4) (N := 8) hx hb hts hinX4 hown hK hP 0 rfl rfl 0 (by decide) q1 (fun _ h9 => h9) rfl dX4_fate_98 ?_
                refine lv_sipush (v := 1201) hx hb dX4_fate_101 (by decide) ?_
                refine va_iald hx hb hK hP 1 0 rfl rfl (kin_lit (j := 1201) (n := 1203) (by decide) (by decide)) dX4_fate_104 ?_
                refine kw_top (v := .int ((M.1 0) 1201)) rfl ?_
                refine lv_istore_n (lv' := [(2, .int ((M.1 0) 1201)), (1, .int y1), (0, .ref (am 0))]) hx hb dX4_fate_105 rfl hl (by decide) rfl (fun ls hl => ?_)
                refine lv_aload_n hx hb dX4_fate_106 rfl (lv_at hl 2 rfl) ?_
                have hs70008 := hF
                refine kcV (ci := 4) (q0 := 0) (As := []) (rest := []) E.1 (cx4_takesBack E am M hs70008) hX (cwV 0 hts gX4_fate_X4_takesBack rfl rfl rfl hdX4_takesBack ⟨Nat.le_of_ble_eq_true rfl, Nat.le_of_ble_eq_true rfl⟩) hKs hK hP hD hS hA _ _ (kw_self _) (kw_self _).symm rfl rfl rfl rfl hl.1 (Nat.le_of_ble_eq_true rfl) dX4_fate_107 ⟨Nat.zero_le _, Nat.zero_le _⟩ (fun H locs hP hD hS => ?_)
                have hP : va_P D vwCl (mdW cI am (fx4_takesBack M)) H := hP
                have hD : va_D A (mdW cI am (fx4_takesBack M)) := hD
                generalize eM70007 : fx4_takesBack M = M70007 at hR hP hD
                replace hR := bnd_e hR
                refine lv_iload_n hx hb dX4_fate_110 rfl (lv_at hl 0 rfl) ?_
                subst hR
                exact krI hx hb hr hlk hP hD hS dX4_fate_111 rfl rfl
              · rw [if_pos c70004] at hR hF
                refine lv_aload_n hx hb dX4_fate_87 rfl (lv_at hl 2 rfl) ?_
                obtain ⟨hs70006, hF⟩ := hF
                refine kcV (ci := 4) (q0 := 0) (As := []) (rest := []) E.1 (cx4_tickOn E am (M.1 4 0) (M.1 4 1) (M.1 4 2) M.2 (M.1 0) hs70006) hX (cwV 0 hts gX4_fate_X4_tickOn rfl rfl rfl hdX4_tickOn ⟨Nat.le_of_ble_eq_true rfl, Nat.le_of_ble_eq_true rfl⟩) hKs hK hP hD hS hA _ _ (md_mn cI am M) (md_mn' cI am M _) rfl rfl rfl rfl hl.1 (Nat.le_of_ble_eq_true rfl) dX4_fate_88 ⟨Nat.zero_le _, Nat.zero_le _⟩ (fun H locs hP hD hS => ?_)
                have hP : va_P D vwCl (mdW cI am (va_up M.1 0 (fx4_tickOn (M.1 0)), M.2)) H := hP
                have hD : va_D A (mdW cI am (va_up M.1 0 (fx4_tickOn (M.1 0)), M.2)) := hD
                generalize eM70005 : fx4_tickOn (M.1 0) = M70005 at hR hF hP hD
                replace hR := bnd_e hR
                replace hF := bnd_p hF
                refine lv_iinc (v := y2 + 1) (lv' := [(2, .int (y2 + 1)), (1, .int y1), (0, .ref (am 0))]) hx hb dX4_fate_91 hl (k := 1) rfl rfl (by decide) rfl (fun ls hl => ?_)
                refine lv_goto (tgt := 69) hx hb dX4_fate_94 (by decide) ?_
                exact ih69 y1 (y2 + 1) (va_up M.1 0 M70005, M.2) _ _ ls hR hF hP hD hS (lv_sub hl [1, 0, 2] rfl)
        exact loop69 kfu x1 0 (va_up (va_up (va_up M14.1 0 g15) 0 g16) 0 g19, M14.2) _ _ ls hR hF hP hD hS (lv_sub hl [2, 0, 1] rfl)
      · rw [if_pos c17] at hR hF
        refine lv_iconst (v := 1) hx hb dX4_fate_61 (by decide) ?_
        refine lv_goto (tgt := 66) hx hb dX4_fate_62 (by decide) ?_
        refine va_iast hx hb hK hP hD hS 1 0 rfl rfl (kin_lit (j := 15) (n := 1203) (by decide) (by decide)) dX4_fate_66 (fun H locs hP hD hS => ?_)
        have hP : va_P D vwCl (mdW cI am (va_up (va_up (va_up M14.1 0 g15) 0 g16) 0 (upd g16 15 1), M14.2)) H := hP
        have hD : va_D A (mdW cI am (va_up (va_up (va_up M14.1 0 g15) 0 g16) 0 (upd g16 15 1), M14.2)) := hD
        generalize eg18 : upd g16 15 1 = g18 at hR hP hD hF
        replace hR := bnd_e hR
        replace hF := bnd_p hF
        refine lv_iconst (v := 0) hx hb dX4_fate_67 (by decide) ?_
        refine lv_istore_n (lv' := [(2, .int 0), (0, .ref (am 0)), (1, .int x1)]) hx hb dX4_fate_68 rfl hl (by decide) rfl (fun ls hl => ?_)
        have loop69 : ∀ (n69 : Nat) (y1 : Int32) (y2 : Int32) (M : Md) (H : Heap) (locs : List Loc) (ls : Array Slot), fx4_fate_L69 n69 y1 y2 M = R → sx4_fate_L69 n69 y1 y2 M → va_P D vwCl (mdW cI am M) H → va_D A (mdW cI am M) → va_S A s.heap H locs → lv_has ls 3 [(1, .int y1), (2, .int y2), (0, .ref (am 0))] → W p l e (kRm 6 136) s m ([.ref (am 0), .int x1] : List Value).toArray below meth c H locs 0 0 (kQI D below R.1 (mdW cI am R.2) A ([.ref (am 0), .int x1] : List Value).toArray s) (F0 m 69 ls []) := by
          intro n69
          induction n69 with
          | zero => intro y1 y2 M H locs ls hR hF; exact hF.elim
          | succ n69 ih69 =>
            intro y1 y2 M H locs ls hR hF hP hD hS hl
            rw [fx4_fate_L69] at hR
            rw [sx4_fate_L69] at hF
            refine lv_iload_n hx hb dX4_fate_69 rfl (lv_at hl 1 rfl) ?_
            refine lv_sipush (v := 1000) hx hb dX4_fate_70 (by decide) ?_
            refine lv_icmp_ge (tgt := 97) hx hb dX4_fate_73 (by decide) (fun c70001 => ?_) (fun c70001 => ?_)
            · rw [if_pos c70001] at hR hF
              refine lv_aload_n hx hb dX4_fate_97 rfl (lv_at hl 2 rfl) ?_
              refine va_get (D := D) (ci := 4) (v := .ref (am 1)) (C := RX4) (T := TX4) (N := 8) hx hb hts hinX4 hown hK hP 0 rfl rfl 0 (by decide) q1 (fun _ h9 => h9) rfl dX4_fate_98 ?_
              refine lv_sipush (v := 1201) hx hb dX4_fate_101 (by decide) ?_
              refine va_iald hx hb hK hP 1 0 rfl rfl (kin_lit (j := 1201) (n := 1203) (by decide) (by decide)) dX4_fate_104 ?_
              refine kw_top (v := .int ((M.1 0) 1201)) rfl ?_
              refine lv_istore_n (lv' := [(2, .int ((M.1 0) 1201)), (1, .int y1), (0, .ref (am 0))]) hx hb dX4_fate_105 rfl hl (by decide) rfl (fun ls hl => ?_)
              refine lv_aload_n hx hb dX4_fate_106 rfl (lv_at hl 2 rfl) ?_
              have hs70003 := hF
              refine kcV (ci := 4) (q0 := 0) (As := []) (rest := []) E.1 (cx4_takesBack E am M hs70003) hX (cwV 0 hts gX4_fate_X4_takesBack rfl rfl rfl hdX4_takesBack ⟨Nat.le_of_ble_eq_true rfl, Nat.le_of_ble_eq_true rfl⟩) hKs hK hP hD hS hA _ _ (kw_self _) (kw_self _).symm rfl rfl rfl rfl hl.1 (Nat.le_of_ble_eq_true rfl) dX4_fate_107 ⟨Nat.zero_le _, Nat.zero_le _⟩ (fun H locs hP hD hS => ?_)
              have hP : va_P D vwCl (mdW cI am (fx4_takesBack M)) H := hP
              have hD : va_D A (mdW cI am (fx4_takesBack M)) := hD
              generalize eM70002 : fx4_takesBack M = M70002 at hR hP hD
              replace hR := bnd_e hR
              refine lv_iload_n hx hb dX4_fate_110 rfl (lv_at hl 0 rfl) ?_
              subst hR
              exact krI hx hb hr hlk hP hD hS dX4_fate_111 rfl rfl
            · rw [if_neg c70001] at hR hF
              refine lv_aload_n hx hb dX4_fate_76 rfl (lv_at hl 2 rfl) ?_
              refine va_get (D := D) (ci := 4) (v := .ref (am 1)) (C := RX4) (T := TX4) (N := 8) hx hb hts hinX4 hown hK hP 0 rfl rfl 0 (by decide) q1 (fun _ h9 => h9) rfl dX4_fate_77 ?_
              refine lv_sipush (v := 1201) hx hb dX4_fate_80 (by decide) ?_
              refine va_iald hx hb hK hP 1 0 rfl rfl (kin_lit (j := 1201) (n := 1203) (by decide) (by decide)) dX4_fate_83 ?_
              refine kw_top (v := .int ((M.1 0) 1201)) rfl ?_
              refine lv_if_ne (tgt := 97) hx hb dX4_fate_84 (by decide) (fun c70004 => ?_) (fun c70004 => ?_)
              · rw [if_neg c70004] at hR hF
                refine lv_aload_n hx hb dX4_fate_97 rfl (lv_at hl 2 rfl) ?_
                refine va_get (D := D) (ci := 4) (v := .ref (am 1)) (C := RX4) (T := TX4) (N := 8) hx hb hts hinX4 hown hK hP 0 rfl rfl 0 (by decide) q1 (fun _ h9 => h9) rfl dX4_fate_98 ?_
                refine lv_sipush (v := 1201) hx hb dX4_fate_101 (by decide) ?_
                refine va_iald hx hb hK hP 1 0 rfl rfl (kin_lit (j := 1201) (n := 1203) (by decide) (by decide)) dX4_fate_104 ?_
                refine kw_top (v := .int ((M.1 0) 1201)) rfl ?_
                refine lv_istore_n (lv' := [(2, .int ((M.1 0) 1201)), (1, .int y1), (0, .ref (am 0))]) hx hb dX4_fate_105 rfl hl (by decide) rfl (fun ls hl => ?_)
                refine lv_aload_n hx hb dX4_fate_106 rfl (lv_at hl 2 rfl) ?_
                have hs70008 := hF
                refine kcV (ci := 4) (q0 := 0) (As := []) (rest := []) E.1 (cx4_takesBack E am M hs70008) hX (cwV 0 hts gX4_fate_X4_takesBack rfl rfl rfl hdX4_takesBack ⟨Nat.le_of_ble_eq_true rfl, Nat.le_of_ble_eq_true rfl⟩) hKs hK hP hD hS hA _ _ (kw_self _) (kw_self _).symm rfl rfl rfl rfl hl.1 (Nat.le_of_ble_eq_true rfl) dX4_fate_107 ⟨Nat.zero_le _, Nat.zero_le _⟩ (fun H locs hP hD hS => ?_)
                have hP : va_P D vwCl (mdW cI am (fx4_takesBack M)) H := hP
                have hD : va_D A (mdW cI am (fx4_takesBack M)) := hD
                generalize eM70007 : fx4_takesBack M = M70007 at hR hP hD
                replace hR := bnd_e hR
                refine lv_iload_n hx hb dX4_fate_110 rfl (lv_at hl 0 rfl) ?_
                subst hR
                exact krI hx hb hr hlk hP hD hS dX4_fate_111 rfl rfl
              · rw [if_pos c70004] at hR hF
                refine lv_aload_n hx hb dX4_fate_87 rfl (lv_at hl 2 rfl) ?_
                obtain ⟨hs70006, hF⟩ := hF
                refine kcV (ci := 4) (q0 := 0) (As := []) (rest := []) E.1 (cx4_tickOn E am (M.1 4 0) (M.1 4 1) (M.1 4 2) M.2 (M.1 0) hs70006) hX (cwV 0 hts gX4_fate_X4_tickOn rfl rfl rfl hdX4_tickOn ⟨Nat.le_of_ble_eq_true rfl, Nat.le_of_ble_eq_true rfl⟩) hKs hK hP hD hS hA _ _ (md_mn cI am M) (md_mn' cI am M _) rfl rfl rfl rfl hl.1 (Nat.le_of_ble_eq_true rfl) dX4_fate_88 ⟨Nat.zero_le _, Nat.zero_le _⟩ (fun H locs hP hD hS => ?_)
                have hP : va_P D vwCl (mdW cI am (va_up M.1 0 (fx4_tickOn (M.1 0)), M.2)) H := hP
                have hD : va_D A (mdW cI am (va_up M.1 0 (fx4_tickOn (M.1 0)), M.2)) := hD
                generalize eM70005 : fx4_tickOn (M.1 0) = M70005 at hR hF hP hD
                replace hR := bnd_e hR
                replace hF := bnd_p hF
                refine lv_iinc (v := y2 + 1) (lv' := [(2, .int (y2 + 1)), (1, .int y1), (0, .ref (am 0))]) hx hb dX4_fate_91 hl (k := 1) rfl rfl (by decide) rfl (fun ls hl => ?_)
                refine lv_goto (tgt := 69) hx hb dX4_fate_94 (by decide) ?_
                exact ih69 y1 (y2 + 1) (va_up M.1 0 M70005, M.2) _ _ ls hR hF hP hD hS (lv_sub hl [1, 0, 2] rfl)
        exact loop69 kfu x1 0 (va_up (va_up (va_up M14.1 0 g15) 0 g16) 0 g18, M14.2) _ _ ls hR hF hP hD hS (lv_sub hl [2, 0, 1] rfl)
    · rw [if_neg c13] at hR hF
      refine lv_iconst (v := 0) hx hb dX4_fate_21 (by decide) ?_
      subst hR
      exact krI hx hb hr hlk hP hD hS dX4_fate_22 rfl rfl
  · rw [if_pos c2] at hR hF
    refine lv_iconst (v := 1) hx hb dX4_fate_10 (by decide) ?_
    refine lv_goto (tgt := 15) hx hb dX4_fate_11 (by decide) ?_
    refine kcI (ci := 4) (q0 := 0) (As := [.int 1]) (rest := []) E.1 (cx4_refused E am M 1) hX (cwV 1 hts gX4_fate_X4_refused rfl rfl rfl hdX4_refused ⟨Nat.le_of_ble_eq_true rfl, Nat.le_of_ble_eq_true rfl⟩) hKs hK hP hD hS hA _ _ (kw_self _) (kw_self _).symm rfl rfl rfl rfl hl.1 (Nat.le_of_ble_eq_true rfl) dX4_fate_15 ⟨Nat.zero_le _, Nat.zero_le _⟩ (fun H locs hP hD hS => ?_)
    have hP : va_P D vwCl (mdW cI am ((fx4_refused M 1).2)) H := hP
    have hD : va_D A (mdW cI am ((fx4_refused M 1).2)) := hD
    generalize eu3 : fx4_refused M 1 = u3 at hR hF hP hD ⊢
    replace hR := bnd_e hR
    replace hF := bnd_p hF
    refine lv_if_eq (tgt := 23) hx hb dX4_fate_18 (by decide) (fun c4 => ?_) (fun c4 => ?_)
    · rw [if_pos c4] at hR hF
      refine lv_aload_n hx hb dX4_fate_23 rfl (lv_at hl 0 rfl) ?_
      obtain ⟨hs11, hF⟩ := hF
      refine kcV (ci := 4) (q0 := 0) (As := []) (rest := []) E.1 (cx4_laysAside E am u3.2 hs11) hX (cwV 0 hts gX4_fate_X4_laysAside rfl rfl rfl hdX4_laysAside ⟨Nat.le_of_ble_eq_true rfl, Nat.le_of_ble_eq_true rfl⟩) hKs hK hP hD hS hA _ _ (kw_self _) (kw_self _).symm rfl rfl rfl rfl hl.1 (Nat.le_of_ble_eq_true rfl) dX4_fate_24 ⟨Nat.zero_le _, Nat.zero_le _⟩ (fun H locs hP hD hS => ?_)
      have hP : va_P D vwCl (mdW cI am (fx4_laysAside u3.2)) H := hP
      have hD : va_D A (mdW cI am (fx4_laysAside u3.2)) := hD
      generalize eM5 : fx4_laysAside u3.2 = M5 at hR hF hP hD
      replace hR := bnd_e hR
      replace hF := bnd_p hF
      refine lv_aload_n hx hb dX4_fate_27 rfl (lv_at hl 0 rfl) ?_
      refine va_get (D := D) (ci := 4) (v := .ref (am 1)) (C := RX4) (T := TX4) (N := 8) hx hb hts hinX4 hown hK hP 0 rfl rfl 0 (by decide) q1 (fun _ h9 => h9) rfl dX4_fate_28 ?_
      refine lv_sipush (v := 1202) hx hb dX4_fate_31 (by decide) ?_
      refine lv_iload_n hx hb dX4_fate_34 rfl (lv_at hl 1 rfl) ?_
      refine va_iast hx hb hK hP hD hS 1 0 rfl rfl (kin_lit (j := 1202) (n := 1203) (by decide) (by decide)) dX4_fate_35 (fun H locs hP hD hS => ?_)
      have hP : va_P D vwCl (mdW cI am (va_up M5.1 0 (upd (M5.1 0) 1202 x1), M5.2)) H := hP
      have hD : va_D A (mdW cI am (va_up M5.1 0 (upd (M5.1 0) 1202 x1), M5.2)) := hD
      generalize eg6 : upd (M5.1 0) 1202 x1 = g6 at hR hP hD hF
      replace hR := bnd_e hR
      replace hF := bnd_p hF
      refine lv_aload_n hx hb dX4_fate_36 rfl (lv_at hl 0 rfl) ?_
      refine va_get (D := D) (ci := 4) (v := .ref (am 1)) (C := RX4) (T := TX4) (N := 8) hx hb hts hinX4 hown hK hP 0 rfl rfl 0 (by decide) q1 (fun _ h9 => h9) rfl dX4_fate_37 ?_
      refine lv_sipush (v := 1201) hx hb dX4_fate_40 (by decide) ?_
      refine lv_iconst (v := 0) hx hb dX4_fate_43 (by decide) ?_
      refine va_iast hx hb hK hP hD hS 1 0 rfl rfl (kin_lit (j := 1201) (n := 1203) (by decide) (by decide)) dX4_fate_44 (fun H locs hP hD hS => ?_)
      have hP : va_P D vwCl (mdW cI am (va_up (va_up M5.1 0 g6) 0 (upd g6 1201 0), M5.2)) H := hP
      have hD : va_D A (mdW cI am (va_up (va_up M5.1 0 g6) 0 (upd g6 1201 0), M5.2)) := hD
      generalize eg7 : upd g6 1201 0 = g7 at hR hP hD hF
      replace hR := bnd_e hR
      replace hF := bnd_p hF
      refine lv_aload_n hx hb dX4_fate_45 rfl (lv_at hl 0 rfl) ?_
      refine va_get (D := D) (ci := 4) (v := .ref (am 1)) (C := RX4) (T := TX4) (N := 8) hx hb hts hinX4 hown hK hP 0 rfl rfl 0 (by decide) q1 (fun _ h9 => h9) rfl dX4_fate_46 ?_
      refine lv_bipush (v := 15) hx hb dX4_fate_49 (by decide) ?_
      refine lv_aload_n hx hb dX4_fate_51 rfl (lv_at hl 0 rfl) ?_
      refine va_get (D := D) (ci := 4) (v := .ref (am 1)) (C := RX4) (T := TX4) (N := 8) hx hb hts hinX4 hown hK hP 0 rfl rfl 0 (by decide) q1 (fun _ h9 => h9) rfl dX4_fate_52 ?_
      refine lv_bipush (v := 16) hx hb dX4_fate_55 (by decide) ?_
      refine va_iald hx hb hK hP 1 0 rfl rfl (kin_lit (j := 16) (n := 1203) (by decide) (by decide)) dX4_fate_57 ?_
      refine kw_top (v := .int (g7 16)) rfl ?_
      refine lv_if_ne (tgt := 65) hx hb dX4_fate_58 (by decide) (fun c8 => ?_) (fun c8 => ?_)
      · rw [if_neg c8] at hR hF
        refine lv_iconst (v := 0) hx hb dX4_fate_65 (by decide) ?_
        refine va_iast hx hb hK hP hD hS 1 0 rfl rfl (kin_lit (j := 15) (n := 1203) (by decide) (by decide)) dX4_fate_66 (fun H locs hP hD hS => ?_)
        have hP : va_P D vwCl (mdW cI am (va_up (va_up (va_up M5.1 0 g6) 0 g7) 0 (upd g7 15 0), M5.2)) H := hP
        have hD : va_D A (mdW cI am (va_up (va_up (va_up M5.1 0 g6) 0 g7) 0 (upd g7 15 0), M5.2)) := hD
        generalize eg10 : upd g7 15 0 = g10 at hR hP hD hF
        replace hR := bnd_e hR
        replace hF := bnd_p hF
        refine lv_iconst (v := 0) hx hb dX4_fate_67 (by decide) ?_
        refine lv_istore_n (lv' := [(2, .int 0), (0, .ref (am 0)), (1, .int x1)]) hx hb dX4_fate_68 rfl hl (by decide) rfl (fun ls hl => ?_)
        have loop69 : ∀ (n69 : Nat) (y1 : Int32) (y2 : Int32) (M : Md) (H : Heap) (locs : List Loc) (ls : Array Slot), fx4_fate_L69 n69 y1 y2 M = R → sx4_fate_L69 n69 y1 y2 M → va_P D vwCl (mdW cI am M) H → va_D A (mdW cI am M) → va_S A s.heap H locs → lv_has ls 3 [(1, .int y1), (2, .int y2), (0, .ref (am 0))] → W p l e (kRm 6 136) s m ([.ref (am 0), .int x1] : List Value).toArray below meth c H locs 0 0 (kQI D below R.1 (mdW cI am R.2) A ([.ref (am 0), .int x1] : List Value).toArray s) (F0 m 69 ls []) := by
          intro n69
          induction n69 with
          | zero => intro y1 y2 M H locs ls hR hF; exact hF.elim
          | succ n69 ih69 =>
            intro y1 y2 M H locs ls hR hF hP hD hS hl
            rw [fx4_fate_L69] at hR
            rw [sx4_fate_L69] at hF
            refine lv_iload_n hx hb dX4_fate_69 rfl (lv_at hl 1 rfl) ?_
            refine lv_sipush (v := 1000) hx hb dX4_fate_70 (by decide) ?_
            refine lv_icmp_ge (tgt := 97) hx hb dX4_fate_73 (by decide) (fun c70001 => ?_) (fun c70001 => ?_)
            · rw [if_pos c70001] at hR hF
              refine lv_aload_n hx hb dX4_fate_97 rfl (lv_at hl 2 rfl) ?_
              refine va_get (D := D) (ci := 4) (v := .ref (am 1)) (C := RX4) (T := TX4) (N := 8) hx hb hts hinX4 hown hK hP 0 rfl rfl 0 (by decide) q1 (fun _ h9 => h9) rfl dX4_fate_98 ?_
              refine lv_sipush (v := 1201) hx hb dX4_fate_101 (by decide) ?_
              refine va_iald hx hb hK hP 1 0 rfl rfl (kin_lit (j := 1201) (n := 1203) (by decide) (by decide)) dX4_fate_104 ?_
              refine kw_top (v := .int ((M.1 0) 1201)) rfl ?_
              refine lv_istore_n (lv' := [(2, .int ((M.1 0) 1201)), (1, .int y1), (0, .ref (am 0))]) hx hb dX4_fate_105 rfl hl (by decide) rfl (fun ls hl => ?_)
              refine lv_aload_n hx hb dX4_fate_106 rfl (lv_at hl 2 rfl) ?_
              have hs70003 := hF
              refine kcV (ci := 4) (q0 := 0) (As := []) (rest := []) E.1 (cx4_takesBack E am M hs70003) hX (cwV 0 hts gX4_fate_X4_takesBack rfl rfl rfl hdX4_takesBack ⟨Nat.le_of_ble_eq_true rfl, Nat.le_of_ble_eq_true rfl⟩) hKs hK hP hD hS hA _ _ (kw_self _) (kw_self _).symm rfl rfl rfl rfl hl.1 (Nat.le_of_ble_eq_true rfl) dX4_fate_107 ⟨Nat.zero_le _, Nat.zero_le _⟩ (fun H locs hP hD hS => ?_)
              have hP : va_P D vwCl (mdW cI am (fx4_takesBack M)) H := hP
              have hD : va_D A (mdW cI am (fx4_takesBack M)) := hD
              generalize eM70002 : fx4_takesBack M = M70002 at hR hP hD
              replace hR := bnd_e hR
              refine lv_iload_n hx hb dX4_fate_110 rfl (lv_at hl 0 rfl) ?_
              subst hR
              exact krI hx hb hr hlk hP hD hS dX4_fate_111 rfl rfl
            · rw [if_neg c70001] at hR hF
              refine lv_aload_n hx hb dX4_fate_76 rfl (lv_at hl 2 rfl) ?_
              refine va_get (D := D) (ci := 4) (v := .ref (am 1)) (C := RX4) (T := TX4) (N := 8) hx hb hts hinX4 hown hK hP 0 rfl rfl 0 (by decide) q1 (fun _ h9 => h9) rfl dX4_fate_77 ?_
              refine lv_sipush (v := 1201) hx hb dX4_fate_80 (by decide) ?_
              refine va_iald hx hb hK hP 1 0 rfl rfl (kin_lit (j := 1201) (n := 1203) (by decide) (by decide)) dX4_fate_83 ?_
              refine kw_top (v := .int ((M.1 0) 1201)) rfl ?_
              refine lv_if_ne (tgt := 97) hx hb dX4_fate_84 (by decide) (fun c70004 => ?_) (fun c70004 => ?_)
              · rw [if_neg c70004] at hR hF
                refine lv_aload_n hx hb dX4_fate_97 rfl (lv_at hl 2 rfl) ?_
                refine va_get (D := D) (ci := 4) (v := .ref (am 1)) (C := RX4) (T := TX4) (N := 8) hx hb hts hinX4 hown hK hP 0 rfl rfl 0 (by decide) q1 (fun _ h9 => h9) rfl dX4_fate_98 ?_
                refine lv_sipush (v := 1201) hx hb dX4_fate_101 (by decide) ?_
                refine va_iald hx hb hK hP 1 0 rfl rfl (kin_lit (j := 1201) (n := 1203) (by decide) (by decide)) dX4_fate_104 ?_
                refine kw_top (v := .int ((M.1 0) 1201)) rfl ?_
                refine lv_istore_n (lv' := [(2, .int ((M.1 0) 1201)), (1, .int y1), (0, .ref (am 0))]) hx hb dX4_fate_105 rfl hl (by decide) rfl (fun ls hl => ?_)
                refine lv_aload_n hx hb dX4_fate_106 rfl (lv_at hl 2 rfl) ?_
                have hs70008 := hF
                refine kcV (ci := 4) (q0 := 0) (As := []) (rest := []) E.1 (cx4_takesBack E am M hs70008) hX (cwV 0 hts gX4_fate_X4_takesBack rfl rfl rfl hdX4_takesBack ⟨Nat.le_of_ble_eq_true rfl, Nat.le_of_ble_eq_true rfl⟩) hKs hK hP hD hS hA _ _ (kw_self _) (kw_self _).symm rfl rfl rfl rfl hl.1 (Nat.le_of_ble_eq_true rfl) dX4_fate_107 ⟨Nat.zero_le _, Nat.zero_le _⟩ (fun H locs hP hD hS => ?_)
                have hP : va_P D vwCl (mdW cI am (fx4_takesBack M)) H := hP
                have hD : va_D A (mdW cI am (fx4_takesBack M)) := hD
                generalize eM70007 : fx4_takesBack M = M70007 at hR hP hD
                replace hR := bnd_e hR
                refine lv_iload_n hx hb dX4_fate_110 rfl (lv_at hl 0 rfl) ?_
                subst hR
                exact krI hx hb hr hlk hP hD hS dX4_fate_111 rfl rfl
              · rw [if_pos c70004] at hR hF
                refine lv_aload_n hx hb dX4_fate_87 rfl (lv_at hl 2 rfl) ?_
                obtain ⟨hs70006, hF⟩ := hF
                refine kcV (ci := 4) (q0 := 0) (As := []) (rest := []) E.1 (cx4_tickOn E am (M.1 4 0) (M.1 4 1) (M.1 4 2) M.2 (M.1 0) hs70006) hX (cwV 0 hts gX4_fate_X4_tickOn rfl rfl rfl hdX4_tickOn ⟨Nat.le_of_ble_eq_true rfl, Nat.le_of_ble_eq_true rfl⟩) hKs hK hP hD hS hA _ _ (md_mn cI am M) (md_mn' cI am M _) rfl rfl rfl rfl hl.1 (Nat.le_of_ble_eq_true rfl) dX4_fate_88 ⟨Nat.zero_le _, Nat.zero_le _⟩ (fun H locs hP hD hS => ?_)
                have hP : va_P D vwCl (mdW cI am (va_up M.1 0 (fx4_tickOn (M.1 0)), M.2)) H := hP
                have hD : va_D A (mdW cI am (va_up M.1 0 (fx4_tickOn (M.1 0)), M.2)) := hD
                generalize eM70005 : fx4_tickOn (M.1 0) = M70005 at hR hF hP hD
                replace hR := bnd_e hR
                replace hF := bnd_p hF
                refine lv_iinc (v := y2 + 1) (lv' := [(2, .int (y2 + 1)), (1, .int y1), (0, .ref (am 0))]) hx hb dX4_fate_91 hl (k := 1) rfl rfl (by decide) rfl (fun ls hl => ?_)
                refine lv_goto (tgt := 69) hx hb dX4_fate_94 (by decide) ?_
                exact ih69 y1 (y2 + 1) (va_up M.1 0 M70005, M.2) _ _ ls hR hF hP hD hS (lv_sub hl [1, 0, 2] rfl)
        exact loop69 kfu x1 0 (va_up (va_up (va_up M5.1 0 g6) 0 g7) 0 g10, M5.2) _ _ ls hR hF hP hD hS (lv_sub hl [2, 0, 1] rfl)
      · rw [if_pos c8] at hR hF
        refine lv_iconst (v := 1) hx hb dX4_fate_61 (by decide) ?_
        refine lv_goto (tgt := 66) hx hb dX4_fate_62 (by decide) ?_
        refine va_iast hx hb hK hP hD hS 1 0 rfl rfl (kin_lit (j := 15) (n := 1203) (by decide) (by decide)) dX4_fate_66 (fun H locs hP hD hS => ?_)
        have hP : va_P D vwCl (mdW cI am (va_up (va_up (va_up M5.1 0 g6) 0 g7) 0 (upd g7 15 1), M5.2)) H := hP
        have hD : va_D A (mdW cI am (va_up (va_up (va_up M5.1 0 g6) 0 g7) 0 (upd g7 15 1), M5.2)) := hD
        generalize eg9 : upd g7 15 1 = g9 at hR hP hD hF
        replace hR := bnd_e hR
        replace hF := bnd_p hF
        refine lv_iconst (v := 0) hx hb dX4_fate_67 (by decide) ?_
        refine lv_istore_n (lv' := [(2, .int 0), (0, .ref (am 0)), (1, .int x1)]) hx hb dX4_fate_68 rfl hl (by decide) rfl (fun ls hl => ?_)
        have loop69 : ∀ (n69 : Nat) (y1 : Int32) (y2 : Int32) (M : Md) (H : Heap) (locs : List Loc) (ls : Array Slot), fx4_fate_L69 n69 y1 y2 M = R → sx4_fate_L69 n69 y1 y2 M → va_P D vwCl (mdW cI am M) H → va_D A (mdW cI am M) → va_S A s.heap H locs → lv_has ls 3 [(1, .int y1), (2, .int y2), (0, .ref (am 0))] → W p l e (kRm 6 136) s m ([.ref (am 0), .int x1] : List Value).toArray below meth c H locs 0 0 (kQI D below R.1 (mdW cI am R.2) A ([.ref (am 0), .int x1] : List Value).toArray s) (F0 m 69 ls []) := by
          intro n69
          induction n69 with
          | zero => intro y1 y2 M H locs ls hR hF; exact hF.elim
          | succ n69 ih69 =>
            intro y1 y2 M H locs ls hR hF hP hD hS hl
            rw [fx4_fate_L69] at hR
            rw [sx4_fate_L69] at hF
            refine lv_iload_n hx hb dX4_fate_69 rfl (lv_at hl 1 rfl) ?_
            refine lv_sipush (v := 1000) hx hb dX4_fate_70 (by decide) ?_
            refine lv_icmp_ge (tgt := 97) hx hb dX4_fate_73 (by decide) (fun c70001 => ?_) (fun c70001 => ?_)
            · rw [if_pos c70001] at hR hF
              refine lv_aload_n hx hb dX4_fate_97 rfl (lv_at hl 2 rfl) ?_
              refine va_get (D := D) (ci := 4) (v := .ref (am 1)) (C := RX4) (T := TX4) (N := 8) hx hb hts hinX4 hown hK hP 0 rfl rfl 0 (by decide) q1 (fun _ h9 => h9) rfl dX4_fate_98 ?_
              refine lv_sipush (v := 1201) hx hb dX4_fate_101 (by decide) ?_
              refine va_iald hx hb hK hP 1 0 rfl rfl (kin_lit (j := 1201) (n := 1203) (by decide) (by decide)) dX4_fate_104 ?_
              refine kw_top (v := .int ((M.1 0) 1201)) rfl ?_
              refine lv_istore_n (lv' := [(2, .int ((M.1 0) 1201)), (1, .int y1), (0, .ref (am 0))]) hx hb dX4_fate_105 rfl hl (by decide) rfl (fun ls hl => ?_)
              refine lv_aload_n hx hb dX4_fate_106 rfl (lv_at hl 2 rfl) ?_
              have hs70003 := hF
              refine kcV (ci := 4) (q0 := 0) (As := []) (rest := []) E.1 (cx4_takesBack E am M hs70003) hX (cwV 0 hts gX4_fate_X4_takesBack rfl rfl rfl hdX4_takesBack ⟨Nat.le_of_ble_eq_true rfl, Nat.le_of_ble_eq_true rfl⟩) hKs hK hP hD hS hA _ _ (kw_self _) (kw_self _).symm rfl rfl rfl rfl hl.1 (Nat.le_of_ble_eq_true rfl) dX4_fate_107 ⟨Nat.zero_le _, Nat.zero_le _⟩ (fun H locs hP hD hS => ?_)
              have hP : va_P D vwCl (mdW cI am (fx4_takesBack M)) H := hP
              have hD : va_D A (mdW cI am (fx4_takesBack M)) := hD
              generalize eM70002 : fx4_takesBack M = M70002 at hR hP hD
              replace hR := bnd_e hR
              refine lv_iload_n hx hb dX4_fate_110 rfl (lv_at hl 0 rfl) ?_
              subst hR
              exact krI hx hb hr hlk hP hD hS dX4_fate_111 rfl rfl
            · rw [if_neg c70001] at hR hF
              refine lv_aload_n hx hb dX4_fate_76 rfl (lv_at hl 2 rfl) ?_
              refine va_get (D := D) (ci := 4) (v := .ref (am 1)) (C := RX4) (T := TX4) (N := 8) hx hb hts hinX4 hown hK hP 0 rfl rfl 0 (by decide) q1 (fun _ h9 => h9) rfl dX4_fate_77 ?_
              refine lv_sipush (v := 1201) hx hb dX4_fate_80 (by decide) ?_
              refine va_iald hx hb hK hP 1 0 rfl rfl (kin_lit (j := 1201) (n := 1203) (by decide) (by decide)) dX4_fate_83 ?_
              refine kw_top (v := .int ((M.1 0) 1201)) rfl ?_
              refine lv_if_ne (tgt := 97) hx hb dX4_fate_84 (by decide) (fun c70004 => ?_) (fun c70004 => ?_)
              · rw [if_neg c70004] at hR hF
                refine lv_aload_n hx hb dX4_fate_97 rfl (lv_at hl 2 rfl) ?_
                refine va_get (D := D) (ci := 4) (v := .ref (am 1)) (C := RX4) (T := TX4) (N := 8) hx hb hts hinX4 hown hK hP 0 rfl rfl 0 (by decide) q1 (fun _ h9 => h9) rfl dX4_fate_98 ?_
                refine lv_sipush (v := 1201) hx hb dX4_fate_101 (by decide) ?_
                refine va_iald hx hb hK hP 1 0 rfl rfl (kin_lit (j := 1201) (n := 1203) (by decide) (by decide)) dX4_fate_104 ?_
                refine kw_top (v := .int ((M.1 0) 1201)) rfl ?_
                refine lv_istore_n (lv' := [(2, .int ((M.1 0) 1201)), (1, .int y1), (0, .ref (am 0))]) hx hb dX4_fate_105 rfl hl (by decide) rfl (fun ls hl => ?_)
                refine lv_aload_n hx hb dX4_fate_106 rfl (lv_at hl 2 rfl) ?_
                have hs70008 := hF
                refine kcV (ci := 4) (q0 := 0) (As := []) (rest := []) E.1 (cx4_takesBack E am M hs70008) hX (cwV 0 hts gX4_fate_X4_takesBack rfl rfl rfl hdX4_takesBack ⟨Nat.le_of_ble_eq_true rfl, Nat.le_of_ble_eq_true rfl⟩) hKs hK hP hD hS hA _ _ (kw_self _) (kw_self _).symm rfl rfl rfl rfl hl.1 (Nat.le_of_ble_eq_true rfl) dX4_fate_107 ⟨Nat.zero_le _, Nat.zero_le _⟩ (fun H locs hP hD hS => ?_)
                have hP : va_P D vwCl (mdW cI am (fx4_takesBack M)) H := hP
                have hD : va_D A (mdW cI am (fx4_takesBack M)) := hD
                generalize eM70007 : fx4_takesBack M = M70007 at hR hP hD
                replace hR := bnd_e hR
                refine lv_iload_n hx hb dX4_fate_110 rfl (lv_at hl 0 rfl) ?_
                subst hR
                exact krI hx hb hr hlk hP hD hS dX4_fate_111 rfl rfl
              · rw [if_pos c70004] at hR hF
                refine lv_aload_n hx hb dX4_fate_87 rfl (lv_at hl 2 rfl) ?_
                obtain ⟨hs70006, hF⟩ := hF
                refine kcV (ci := 4) (q0 := 0) (As := []) (rest := []) E.1 (cx4_tickOn E am (M.1 4 0) (M.1 4 1) (M.1 4 2) M.2 (M.1 0) hs70006) hX (cwV 0 hts gX4_fate_X4_tickOn rfl rfl rfl hdX4_tickOn ⟨Nat.le_of_ble_eq_true rfl, Nat.le_of_ble_eq_true rfl⟩) hKs hK hP hD hS hA _ _ (md_mn cI am M) (md_mn' cI am M _) rfl rfl rfl rfl hl.1 (Nat.le_of_ble_eq_true rfl) dX4_fate_88 ⟨Nat.zero_le _, Nat.zero_le _⟩ (fun H locs hP hD hS => ?_)
                have hP : va_P D vwCl (mdW cI am (va_up M.1 0 (fx4_tickOn (M.1 0)), M.2)) H := hP
                have hD : va_D A (mdW cI am (va_up M.1 0 (fx4_tickOn (M.1 0)), M.2)) := hD
                generalize eM70005 : fx4_tickOn (M.1 0) = M70005 at hR hF hP hD
                replace hR := bnd_e hR
                replace hF := bnd_p hF
                refine lv_iinc (v := y2 + 1) (lv' := [(2, .int (y2 + 1)), (1, .int y1), (0, .ref (am 0))]) hx hb dX4_fate_91 hl (k := 1) rfl rfl (by decide) rfl (fun ls hl => ?_)
                refine lv_goto (tgt := 69) hx hb dX4_fate_94 (by decide) ?_
                exact ih69 y1 (y2 + 1) (va_up M.1 0 M70005, M.2) _ _ ls hR hF hP hD hS (lv_sub hl [1, 0, 2] rfl)
        exact loop69 kfu x1 0 (va_up (va_up (va_up M5.1 0 g6) 0 g7) 0 g9, M5.2) _ _ ls hR hF hP hD hS (lv_sub hl [2, 0, 1] rfl)
    · rw [if_neg c4] at hR hF
      refine lv_iconst (v := 0) hx hb dX4_fate_21 (by decide) ?_
      subst hR
      exact krI hx hb hr hlk hP hD hS dX4_fate_22 rfl rfl

theorem hdX4_append : yX4_append.cls = RX4 ∧ yX4_append.cls ≠ "java/lang/invoke/MethodHandle" ∧ yX4_append.cls ≠ "java/lang/invoke/VarHandle" ∧ (parseMethodDescriptor yX4_append.desc).map (fun d => d.parameters.length) = some 1 := by decide +kernel
def fx4_append (M : Md) (x1 : Int32) : Int32 × (Md) := (if (fx4_within x1 0 127) = 0 then (bnd (fx4_refused M 1) (fun u2 => (if u2.1 = 0 then (bnd (upd (u2.2.1 3) (u2.2.1 4 2).toNatClampNeg x1) (fun g5 => ((u2.2.1 4 2) + 1, (sset (va_up u2.2.1 3 g5) 4 2 ((u2.2.1 4 2) + 1), u2.2.2)))) else (0, u2.2)))) else (if (M.1 4 2) = 80 then (bnd (fx4_refused M 2) (fun u7 => (if u7.1 = 0 then (bnd (upd (u7.2.1 3) (u7.2.1 4 2).toNatClampNeg x1) (fun g10 => ((u7.2.1 4 2) + 1, (sset (va_up u7.2.1 3 g10) 4 2 ((u7.2.1 4 2) + 1), u7.2.2)))) else (0, u7.2)))) else (bnd (fx4_refused M 0) (fun u11 => (if u11.1 = 0 then (bnd (upd (u11.2.1 3) (u11.2.1 4 2).toNatClampNeg x1) (fun g14 => ((u11.2.1 4 2) + 1, (sset (va_up u11.2.1 3 g14) 4 2 ((u11.2.1 4 2) + 1), u11.2.2)))) else (0, u11.2))))))
def sx4_append (M : Md) (x1 : Int32) : Prop := (if (fx4_within x1 0 127) = 0 then (bnd (fx4_refused M 1) (fun u2 => (if u2.1 = 0 then vp_in (u2.2.1 4 2) 80 else True))) else (if (M.1 4 2) = 80 then (bnd (fx4_refused M 2) (fun u7 => (if u7.1 = 0 then vp_in (u7.2.1 4 2) 80 else True))) else (bnd (fx4_refused M 0) (fun u11 => (if u11.1 = 0 then vp_in (u11.2.1 4 2) 80 else True)))))
set_option maxHeartbeats 4000000 in
set_option maxRecDepth 100000 in
theorem cx4_append {l : Launch} {D : va_G} {cI cB cS cJ : ClassId} {K : State → Prop} (E : kE D cI cB cS cJ K) (am : Nat → Nat) (M : Md) (x1 : Int32) (hF : sx4_append M x1) : kI l D K yX4_append wsX4_append 1 22 [.ref (am 0), .int x1] (mdW cI am M) (fx4_append M x1).1 (mdW cI am ((fx4_append M x1).2)) := by
  refine kI_of (own := RX4) (cc := cX4_append) (maxL := 2) (tys := kty cI cB cS cJ) (fun U h => (E.2 U h).1) (by decide) rfl rfl (Nat.le_of_ble_eq_true rfl) ?_
  intro p e s m below meth c A ls hx hb hr hml hts hown hlk hKs hK hP hD hA hS hl
  have hl : lv_has ls 2 [(0, .ref (am 0)), (1, .int x1)] := hl
  have hX : CallFix p m c cX4_append 2 s _ wsX4_append RX4 := ⟨hx, hb, hml, hown, hts⟩
  have hinX4 : ∀ w ∈ wsX40, w ∈ wsX4_append := fun w h => List.mem_cons_of_mem _ (List.mem_append_right _ h)
  have q1 := hts (.fieldLink RX4 128 "LabelStationModel" "length" "I") (List.mem_of_getElem? (i := 1) rfl)
  have q2 := hts (.fieldLink RX4 19 "LabelStationModel" "text" "[I") (List.mem_of_getElem? (i := 2) rfl)
  generalize hR : fx4_append M x1 = R
  rw [fx4_append] at hR
  rw [sx4_append] at hF
  refine lv_aload_n hx hb dX4_append_0 rfl (lv_at hl 0 rfl) ?_
  refine lv_iload_n hx hb dX4_append_1 rfl (lv_at hl 1 rfl) ?_
  refine lv_iconst (v := 0) hx hb dX4_append_2 (by decide) ?_
  refine lv_bipush (v := 127) hx hb dX4_append_3 (by decide) ?_
  refine kcsI (As := [.int x1, .int 0, .int 127]) (rest := [.ref (am 0)]) E.1 (cx4_within E x1 0 127) hX (va_cwS 3 hts gX4_append_X4_within rfl rfl rfl hdX4_within.2 ⟨Nat.le_of_ble_eq_true rfl, Nat.le_of_ble_eq_true rfl⟩) hKs hP hD hS hA _ _ (kw_nil _) (kw_nil _).symm rfl rfl hl.1 (Nat.le_of_ble_eq_true rfl) dX4_append_5 ⟨Nat.zero_le _, Nat.zero_le _⟩ (fun H locs hP hD hS => ?_)
  refine lv_if_ne (tgt := 15) hx hb dX4_append_8 (by decide) (fun c1 => ?_) (fun c1 => ?_)
  · rw [if_neg c1] at hR hF
    refine lv_aload_n hx hb dX4_append_15 rfl (lv_at hl 0 rfl) ?_
    refine va_get (D := D) (ci := 4) (v := .int (M.1 4 2)) (C := RX4) (T := TX4) (N := 8) hx hb hts hinX4 hown hK hP 0 rfl rfl 6 (by decide) q1 (fun _ h9 => h9) rfl dX4_append_16 ?_
    refine lv_bipush (v := 80) hx hb dX4_append_19 (by decide) ?_
    refine lv_icmp_ne (tgt := 28) hx hb dX4_append_21 (by decide) (fun c6 => ?_) (fun c6 => ?_)
    · rw [if_neg c6] at hR hF
      refine lv_iconst (v := 0) hx hb dX4_append_28 (by decide) ?_
      refine kcI (ci := 4) (q0 := 0) (As := [.int 0]) (rest := []) E.1 (cx4_refused E am M 0) hX (cwV 1 hts gX4_append_X4_refused rfl rfl rfl hdX4_refused ⟨Nat.le_of_ble_eq_true rfl, Nat.le_of_ble_eq_true rfl⟩) hKs hK hP hD hS hA _ _ (kw_self _) (kw_self _).symm rfl rfl rfl rfl hl.1 (Nat.le_of_ble_eq_true rfl) dX4_append_29 ⟨Nat.zero_le _, Nat.zero_le _⟩ (fun H locs hP hD hS => ?_)
      have hP : va_P D vwCl (mdW cI am ((fx4_refused M 0).2)) H := hP
      have hD : va_D A (mdW cI am ((fx4_refused M 0).2)) := hD
      generalize eu11 : fx4_refused M 0 = u11 at hR hF hP hD ⊢
      replace hR := bnd_e hR
      replace hF := bnd_p hF
      refine lv_if_eq (tgt := 37) hx hb dX4_append_32 (by decide) (fun c12 => ?_) (fun c12 => ?_)
      · rw [if_pos c12] at hR hF
        refine lv_aload_n hx hb dX4_append_37 rfl (lv_at hl 0 rfl) ?_
        refine va_get (D := D) (ci := 4) (v := .ref (am 4)) (C := RX4) (T := TX4) (N := 8) hx hb hts hinX4 hown hK hP 0 rfl rfl 5 (by decide) q2 (fun _ h9 => h9) rfl dX4_append_38 ?_
        refine lv_aload_n hx hb dX4_append_41 rfl (lv_at hl 0 rfl) ?_
        refine va_get (D := D) (ci := 4) (v := .int (u11.2.1 4 2)) (C := RX4) (T := TX4) (N := 8) hx hb hts hinX4 hown hK hP 0 rfl rfl 6 (by decide) q1 (fun _ h9 => h9) rfl dX4_append_42 ?_
        refine lv_iload_n hx hb dX4_append_45 rfl (lv_at hl 1 rfl) ?_
        have hi13 := hF
        refine va_iast hx hb hK hP hD hS 4 0 rfl rfl hi13 dX4_append_46 (fun H locs hP hD hS => ?_)
        have hP : va_P D vwCl (mdW cI am (va_up u11.2.1 3 (upd (u11.2.1 3) (u11.2.1 4 2).toNatClampNeg x1), u11.2.2)) H := hP
        have hD : va_D A (mdW cI am (va_up u11.2.1 3 (upd (u11.2.1 3) (u11.2.1 4 2).toNatClampNeg x1), u11.2.2)) := hD
        generalize eg14 : upd (u11.2.1 3) (u11.2.1 4 2).toNatClampNeg x1 = g14 at hR hP hD
        replace hR := bnd_e hR
        refine lv_aload_n hx hb dX4_append_47 rfl (lv_at hl 0 rfl) ?_
        refine lv_dup hx hb dX4_append_48 rfl ?_
        refine va_get (D := D) (ci := 4) (v := .int (u11.2.1 4 2)) (C := RX4) (T := TX4) (N := 8) hx hb hts hinX4 hown hK hP 0 rfl rfl 6 (by decide) q1 (fun _ h9 => h9) rfl dX4_append_49 ?_
        refine lv_iconst (v := 1) hx hb dX4_append_52 (by decide) ?_
        refine lv_iadd hx hb dX4_append_53 ?_
        refine va_put (D := D) (ci := 4) (v := .int ((u11.2.1 4 2) + 1)) (ty := .int) (C := RX4) (T := TX4) (N := 8) hx hb hts hinX4 tyX4 tyX4_ok nmX4 hown hK hP hD hS 0 rfl rfl 6 (by decide) q1 (fun _ h9 => h9) rfl (by decide +kernel) rfl rfl (Nat.le_of_ble_eq_true rfl) dX4_append_54 (fun H locs hP hD hS => ?_)
        have hP : va_P D vwCl (mdW cI am (sset (va_up u11.2.1 3 g14) 4 2 ((u11.2.1 4 2) + 1), u11.2.2)) H := hP
        have hD : va_D A (mdW cI am (sset (va_up u11.2.1 3 g14) 4 2 ((u11.2.1 4 2) + 1), u11.2.2)) := hD
        refine lv_aload_n hx hb dX4_append_57 rfl (lv_at hl 0 rfl) ?_
        refine va_get (D := D) (ci := 4) (v := .int ((u11.2.1 4 2) + 1)) (C := RX4) (T := TX4) (N := 8) hx hb hts hinX4 hown hK hP 0 rfl rfl 6 (by decide) q1 (fun _ h9 => h9) rfl dX4_append_58 ?_
        subst hR
        exact krI hx hb hr hlk hP hD hS dX4_append_61 rfl rfl
      · rw [if_neg c12] at hR hF
        refine lv_iconst (v := 0) hx hb dX4_append_35 (by decide) ?_
        subst hR
        exact krI hx hb hr hlk hP hD hS dX4_append_36 rfl rfl
    · rw [if_pos c6] at hR hF
      refine lv_iconst (v := 2) hx hb dX4_append_24 (by decide) ?_
      refine lv_goto (tgt := 29) hx hb dX4_append_25 (by decide) ?_
      refine kcI (ci := 4) (q0 := 0) (As := [.int 2]) (rest := []) E.1 (cx4_refused E am M 2) hX (cwV 1 hts gX4_append_X4_refused rfl rfl rfl hdX4_refused ⟨Nat.le_of_ble_eq_true rfl, Nat.le_of_ble_eq_true rfl⟩) hKs hK hP hD hS hA _ _ (kw_self _) (kw_self _).symm rfl rfl rfl rfl hl.1 (Nat.le_of_ble_eq_true rfl) dX4_append_29 ⟨Nat.zero_le _, Nat.zero_le _⟩ (fun H locs hP hD hS => ?_)
      have hP : va_P D vwCl (mdW cI am ((fx4_refused M 2).2)) H := hP
      have hD : va_D A (mdW cI am ((fx4_refused M 2).2)) := hD
      generalize eu7 : fx4_refused M 2 = u7 at hR hF hP hD ⊢
      replace hR := bnd_e hR
      replace hF := bnd_p hF
      refine lv_if_eq (tgt := 37) hx hb dX4_append_32 (by decide) (fun c8 => ?_) (fun c8 => ?_)
      · rw [if_pos c8] at hR hF
        refine lv_aload_n hx hb dX4_append_37 rfl (lv_at hl 0 rfl) ?_
        refine va_get (D := D) (ci := 4) (v := .ref (am 4)) (C := RX4) (T := TX4) (N := 8) hx hb hts hinX4 hown hK hP 0 rfl rfl 5 (by decide) q2 (fun _ h9 => h9) rfl dX4_append_38 ?_
        refine lv_aload_n hx hb dX4_append_41 rfl (lv_at hl 0 rfl) ?_
        refine va_get (D := D) (ci := 4) (v := .int (u7.2.1 4 2)) (C := RX4) (T := TX4) (N := 8) hx hb hts hinX4 hown hK hP 0 rfl rfl 6 (by decide) q1 (fun _ h9 => h9) rfl dX4_append_42 ?_
        refine lv_iload_n hx hb dX4_append_45 rfl (lv_at hl 1 rfl) ?_
        have hi9 := hF
        refine va_iast hx hb hK hP hD hS 4 0 rfl rfl hi9 dX4_append_46 (fun H locs hP hD hS => ?_)
        have hP : va_P D vwCl (mdW cI am (va_up u7.2.1 3 (upd (u7.2.1 3) (u7.2.1 4 2).toNatClampNeg x1), u7.2.2)) H := hP
        have hD : va_D A (mdW cI am (va_up u7.2.1 3 (upd (u7.2.1 3) (u7.2.1 4 2).toNatClampNeg x1), u7.2.2)) := hD
        generalize eg10 : upd (u7.2.1 3) (u7.2.1 4 2).toNatClampNeg x1 = g10 at hR hP hD
        replace hR := bnd_e hR
        refine lv_aload_n hx hb dX4_append_47 rfl (lv_at hl 0 rfl) ?_
        refine lv_dup hx hb dX4_append_48 rfl ?_
        refine va_get (D := D) (ci := 4) (v := .int (u7.2.1 4 2)) (C := RX4) (T := TX4) (N := 8) hx hb hts hinX4 hown hK hP 0 rfl rfl 6 (by decide) q1 (fun _ h9 => h9) rfl dX4_append_49 ?_
        refine lv_iconst (v := 1) hx hb dX4_append_52 (by decide) ?_
        refine lv_iadd hx hb dX4_append_53 ?_
        refine va_put (D := D) (ci := 4) (v := .int ((u7.2.1 4 2) + 1)) (ty := .int) (C := RX4) (T := TX4) (N := 8) hx hb hts hinX4 tyX4 tyX4_ok nmX4 hown hK hP hD hS 0 rfl rfl 6 (by decide) q1 (fun _ h9 => h9) rfl (by decide +kernel) rfl rfl (Nat.le_of_ble_eq_true rfl) dX4_append_54 (fun H locs hP hD hS => ?_)
        have hP : va_P D vwCl (mdW cI am (sset (va_up u7.2.1 3 g10) 4 2 ((u7.2.1 4 2) + 1), u7.2.2)) H := hP
        have hD : va_D A (mdW cI am (sset (va_up u7.2.1 3 g10) 4 2 ((u7.2.1 4 2) + 1), u7.2.2)) := hD
        refine lv_aload_n hx hb dX4_append_57 rfl (lv_at hl 0 rfl) ?_
        refine va_get (D := D) (ci := 4) (v := .int ((u7.2.1 4 2) + 1)) (C := RX4) (T := TX4) (N := 8) hx hb hts hinX4 hown hK hP 0 rfl rfl 6 (by decide) q1 (fun _ h9 => h9) rfl dX4_append_58 ?_
        subst hR
        exact krI hx hb hr hlk hP hD hS dX4_append_61 rfl rfl
      · rw [if_neg c8] at hR hF
        refine lv_iconst (v := 0) hx hb dX4_append_35 (by decide) ?_
        subst hR
        exact krI hx hb hr hlk hP hD hS dX4_append_36 rfl rfl
  · rw [if_pos c1] at hR hF
    refine lv_iconst (v := 1) hx hb dX4_append_11 (by decide) ?_
    refine lv_goto (tgt := 29) hx hb dX4_append_12 (by decide) ?_
    refine kcI (ci := 4) (q0 := 0) (As := [.int 1]) (rest := []) E.1 (cx4_refused E am M 1) hX (cwV 1 hts gX4_append_X4_refused rfl rfl rfl hdX4_refused ⟨Nat.le_of_ble_eq_true rfl, Nat.le_of_ble_eq_true rfl⟩) hKs hK hP hD hS hA _ _ (kw_self _) (kw_self _).symm rfl rfl rfl rfl hl.1 (Nat.le_of_ble_eq_true rfl) dX4_append_29 ⟨Nat.zero_le _, Nat.zero_le _⟩ (fun H locs hP hD hS => ?_)
    have hP : va_P D vwCl (mdW cI am ((fx4_refused M 1).2)) H := hP
    have hD : va_D A (mdW cI am ((fx4_refused M 1).2)) := hD
    generalize eu2 : fx4_refused M 1 = u2 at hR hF hP hD ⊢
    replace hR := bnd_e hR
    replace hF := bnd_p hF
    refine lv_if_eq (tgt := 37) hx hb dX4_append_32 (by decide) (fun c3 => ?_) (fun c3 => ?_)
    · rw [if_pos c3] at hR hF
      refine lv_aload_n hx hb dX4_append_37 rfl (lv_at hl 0 rfl) ?_
      refine va_get (D := D) (ci := 4) (v := .ref (am 4)) (C := RX4) (T := TX4) (N := 8) hx hb hts hinX4 hown hK hP 0 rfl rfl 5 (by decide) q2 (fun _ h9 => h9) rfl dX4_append_38 ?_
      refine lv_aload_n hx hb dX4_append_41 rfl (lv_at hl 0 rfl) ?_
      refine va_get (D := D) (ci := 4) (v := .int (u2.2.1 4 2)) (C := RX4) (T := TX4) (N := 8) hx hb hts hinX4 hown hK hP 0 rfl rfl 6 (by decide) q1 (fun _ h9 => h9) rfl dX4_append_42 ?_
      refine lv_iload_n hx hb dX4_append_45 rfl (lv_at hl 1 rfl) ?_
      have hi4 := hF
      refine va_iast hx hb hK hP hD hS 4 0 rfl rfl hi4 dX4_append_46 (fun H locs hP hD hS => ?_)
      have hP : va_P D vwCl (mdW cI am (va_up u2.2.1 3 (upd (u2.2.1 3) (u2.2.1 4 2).toNatClampNeg x1), u2.2.2)) H := hP
      have hD : va_D A (mdW cI am (va_up u2.2.1 3 (upd (u2.2.1 3) (u2.2.1 4 2).toNatClampNeg x1), u2.2.2)) := hD
      generalize eg5 : upd (u2.2.1 3) (u2.2.1 4 2).toNatClampNeg x1 = g5 at hR hP hD
      replace hR := bnd_e hR
      refine lv_aload_n hx hb dX4_append_47 rfl (lv_at hl 0 rfl) ?_
      refine lv_dup hx hb dX4_append_48 rfl ?_
      refine va_get (D := D) (ci := 4) (v := .int (u2.2.1 4 2)) (C := RX4) (T := TX4) (N := 8) hx hb hts hinX4 hown hK hP 0 rfl rfl 6 (by decide) q1 (fun _ h9 => h9) rfl dX4_append_49 ?_
      refine lv_iconst (v := 1) hx hb dX4_append_52 (by decide) ?_
      refine lv_iadd hx hb dX4_append_53 ?_
      refine va_put (D := D) (ci := 4) (v := .int ((u2.2.1 4 2) + 1)) (ty := .int) (C := RX4) (T := TX4) (N := 8) hx hb hts hinX4 tyX4 tyX4_ok nmX4 hown hK hP hD hS 0 rfl rfl 6 (by decide) q1 (fun _ h9 => h9) rfl (by decide +kernel) rfl rfl (Nat.le_of_ble_eq_true rfl) dX4_append_54 (fun H locs hP hD hS => ?_)
      have hP : va_P D vwCl (mdW cI am (sset (va_up u2.2.1 3 g5) 4 2 ((u2.2.1 4 2) + 1), u2.2.2)) H := hP
      have hD : va_D A (mdW cI am (sset (va_up u2.2.1 3 g5) 4 2 ((u2.2.1 4 2) + 1), u2.2.2)) := hD
      refine lv_aload_n hx hb dX4_append_57 rfl (lv_at hl 0 rfl) ?_
      refine va_get (D := D) (ci := 4) (v := .int ((u2.2.1 4 2) + 1)) (C := RX4) (T := TX4) (N := 8) hx hb hts hinX4 hown hK hP 0 rfl rfl 6 (by decide) q1 (fun _ h9 => h9) rfl dX4_append_58 ?_
      subst hR
      exact krI hx hb hr hlk hP hD hS dX4_append_61 rfl rfl
    · rw [if_neg c3] at hR hF
      refine lv_iconst (v := 0) hx hb dX4_append_35 (by decide) ?_
      subst hR
      exact krI hx hb hr hlk hP hD hS dX4_append_36 rfl rfl

theorem hdX4_clearText : yX4_clearText.cls = RX4 ∧ yX4_clearText.cls ≠ "java/lang/invoke/MethodHandle" ∧ yX4_clearText.cls ≠ "java/lang/invoke/VarHandle" ∧ (parseMethodDescriptor yX4_clearText.desc).map (fun d => d.parameters.length) = some 0 := by decide +kernel
def fx4_clearText (M : Md) : Int32 × (Md) := (M.1 4 2, (sset (sset M.1 4 1 0) 4 2 0, M.2))
set_option maxHeartbeats 4000000 in
set_option maxRecDepth 100000 in
theorem cx4_clearText {l : Launch} {D : va_G} {cI cB cS cJ : ClassId} {K : State → Prop} (E : kE D cI cB cS cJ K) (am : Nat → Nat) (M : Md) : kI l D K yX4_clearText wsX4_clearText 0 0 [.ref (am 0)] (mdW cI am M) (fx4_clearText M).1 (mdW cI am ((fx4_clearText M).2)) := by
  refine kI_of (own := RX4) (cc := cX4_clearText) (maxL := 2) (tys := kty cI cB cS cJ) (fun U h => (E.2 U h).1) (by decide) rfl rfl (Nat.le_of_ble_eq_true rfl) ?_
  intro p e s m below meth c A ls hx hb hr hml hts hown hlk hKs hK hP hD hA hS hl
  have hl : lv_has ls 2 [(0, .ref (am 0))] := hl
  have hX : CallFix p m c cX4_clearText 2 s _ wsX4_clearText RX4 := ⟨hx, hb, hml, hown, hts⟩
  have hinX4 : ∀ w ∈ wsX40, w ∈ wsX4_clearText := fun w h => List.mem_cons_of_mem _ (List.mem_append_right _ h)
  have q1 := hts (.fieldLink RX4 22 "LabelStationModel" "refusal" "I") (List.mem_of_getElem? (i := 1) rfl)
  have q2 := hts (.fieldLink RX4 128 "LabelStationModel" "length" "I") (List.mem_of_getElem? (i := 2) rfl)
  generalize hR : fx4_clearText M = R
  rw [fx4_clearText] at hR
  refine lv_aload_n hx hb dX4_clearText_0 rfl (lv_at hl 0 rfl) ?_
  refine lv_iconst (v := 0) hx hb dX4_clearText_1 (by decide) ?_
  refine va_put (D := D) (ci := 4) (v := .int 0) (ty := .int) (C := RX4) (T := TX4) (N := 8) hx hb hts hinX4 tyX4 tyX4_ok nmX4 hown hK hP hD hS 0 rfl rfl 4 (by decide) q1 (fun _ h9 => h9) rfl (by decide +kernel) rfl rfl (Nat.le_of_ble_eq_true rfl) dX4_clearText_2 (fun H locs hP hD hS => ?_)
  have hP : va_P D vwCl (mdW cI am (sset M.1 4 1 0, M.2)) H := hP
  have hD : va_D A (mdW cI am (sset M.1 4 1 0, M.2)) := hD
  refine lv_aload_n hx hb dX4_clearText_5 rfl (lv_at hl 0 rfl) ?_
  refine va_get (D := D) (ci := 4) (v := .int (M.1 4 2)) (C := RX4) (T := TX4) (N := 8) hx hb hts hinX4 hown hK hP 0 rfl rfl 6 (by decide) q2 (fun _ h9 => h9) rfl dX4_clearText_6 ?_
  refine lv_istore_n (lv' := [(1, .int (M.1 4 2)), (0, .ref (am 0))]) hx hb dX4_clearText_9 rfl hl (by decide) rfl (fun ls hl => ?_)
  refine lv_aload_n hx hb dX4_clearText_10 rfl (lv_at hl 1 rfl) ?_
  refine lv_iconst (v := 0) hx hb dX4_clearText_11 (by decide) ?_
  refine va_put (D := D) (ci := 4) (v := .int 0) (ty := .int) (C := RX4) (T := TX4) (N := 8) hx hb hts hinX4 tyX4 tyX4_ok nmX4 hown hK hP hD hS 0 rfl rfl 6 (by decide) q2 (fun _ h9 => h9) rfl (by decide +kernel) rfl rfl (Nat.le_of_ble_eq_true rfl) dX4_clearText_12 (fun H locs hP hD hS => ?_)
  have hP : va_P D vwCl (mdW cI am (sset (sset M.1 4 1 0) 4 2 0, M.2)) H := hP
  have hD : va_D A (mdW cI am (sset (sset M.1 4 1 0) 4 2 0, M.2)) := hD
  refine lv_iload_n hx hb dX4_clearText_15 rfl (lv_at hl 0 rfl) ?_
  subst hR
  exact krI hx hb hr hlk hP hD hS dX4_clearText_16 rfl rfl

theorem hdX4_carryOut : yX4_carryOut.cls = RX4 ∧ yX4_carryOut.cls ≠ "java/lang/invoke/MethodHandle" ∧ yX4_carryOut.cls ≠ "java/lang/invoke/VarHandle" ∧ (parseMethodDescriptor yX4_carryOut.desc).map (fun d => d.parameters.length) = some 0 := by decide +kernel
def fx4_carryOut_L109 : Nat → Int32 → Md → Int32 × (Md)
  | 0, _, M => (0, M)
  | n109 + 1, y1, M => (if 1203 ≤ y1 then (bnd (fx4_saves M) (fun M110002 => (bnd (fx4_takesBack M110002) (fun M110003 => (M110003.1 4 2, M110003))))) else (bnd (upd (M.1 0) (y1).toNatClampNeg ((M.1 2) (y1).toNatClampNeg)) (fun g110009 => (bnd (upd (M.1 2) (y1).toNatClampNeg ((M.1 0) (y1).toNatClampNeg)) (fun g110011 => fx4_carryOut_L109 n109 (y1 + 1) (va_up (va_up M.1 0 g110009) 2 g110011, M.2))))))
def sx4_carryOut_L109 : Nat → Int32 → Md → Prop
  | 0, _, _ => False
  | n109 + 1, y1, M => (if 1203 ≤ y1 then (sx4_saves M ∧ (bnd (fx4_saves M) (fun M110002 => sx4_takesBack M110002))) else (vp_in (y1) 1203 ∧ (vp_in (y1) 1203 ∧ (vp_in (y1) 1203 ∧ (bnd (upd (M.1 0) (y1).toNatClampNeg ((M.1 2) (y1).toNatClampNeg)) (fun g110009 => (vp_in (y1) 1203 ∧ (bnd (upd (M.1 2) (y1).toNatClampNeg ((M.1 0) (y1).toNatClampNeg)) (fun g110011 => sx4_carryOut_L109 n109 (y1 + 1) (va_up (va_up M.1 0 g110009) 2 g110011, M.2))))))))))
def fx4_carryOut_L70 : Nat → Int32 → Md → Int32 × (Md)
  | 0, _, M => (0, M)
  | n70 + 1, y1, M => (if (M.1 4 2) ≤ y1 then fx4_carryOut_L109 kfu 0 M else (bnd (fx4_does (M.1 0) ((M.1 3) (y1).toNatClampNeg)) (fun u71003 => (if u71003.1 = 0 then (bnd (fx4_takesBack (va_up M.1 0 u71003.2, M.2)) (fun M71005 => ((-1000) - y1, M71005))) else fx4_carryOut_L70 n70 (y1 + 1) (va_up M.1 0 u71003.2, M.2)))))
def sx4_carryOut_L70 : Nat → Int32 → Md → Prop
  | 0, _, _ => False
  | n70 + 1, y1, M => (if (M.1 4 2) ≤ y1 then sx4_carryOut_L109 kfu 0 M else (vp_in (y1) 80 ∧ (sx4_does (M.1 0) ((M.1 3) (y1).toNatClampNeg) ∧ (bnd (fx4_does (M.1 0) ((M.1 3) (y1).toNatClampNeg)) (fun u71003 => (if u71003.1 = 0 then sx4_takesBack (va_up M.1 0 u71003.2, M.2) else sx4_carryOut_L70 n70 (y1 + 1) (va_up M.1 0 u71003.2, M.2)))))))
def fx4_carryOut_L7 : Nat → Int32 → Md → Int32 × (Md)
  | 0, _, M => (0, M)
  | n7 + 1, y1, M => (if (M.1 4 2) ≤ y1 then (bnd (fx4_laysAside M) (fun M8002 => fx4_carryOut_L70 kfu 0 M8002)) else (if (fx4_within ((M.1 3) (y1).toNatClampNeg) 48 51) = 0 then (if ((M.1 3) (y1).toNatClampNeg) = 46 then fx4_carryOut_L7 n7 (y1 + 1) M else (if ((M.1 3) (y1).toNatClampNeg) = 58 then fx4_carryOut_L7 n7 (y1 + 1) M else ((-10) - y1, M))) else fx4_carryOut_L7 n7 (y1 + 1) M))
def sx4_carryOut_L7 : Nat → Int32 → Md → Prop
  | 0, _, _ => False
  | n7 + 1, y1, M => (if (M.1 4 2) ≤ y1 then (sx4_laysAside M ∧ (bnd (fx4_laysAside M) (fun M8002 => sx4_carryOut_L70 kfu 0 M8002))) else (vp_in (y1) 80 ∧ (if (fx4_within ((M.1 3) (y1).toNatClampNeg) 48 51) = 0 then (vp_in (y1) 80 ∧ (if ((M.1 3) (y1).toNatClampNeg) = 46 then sx4_carryOut_L7 n7 (y1 + 1) M else (vp_in (y1) 80 ∧ (if ((M.1 3) (y1).toNatClampNeg) = 58 then sx4_carryOut_L7 n7 (y1 + 1) M else True)))) else sx4_carryOut_L7 n7 (y1 + 1) M)))
def fx4_carryOut (M : Md) : Int32 × (Md) := fx4_carryOut_L7 kfu 0 (sset M.1 4 1 0, M.2)
def sx4_carryOut (M : Md) : Prop := sx4_carryOut_L7 kfu 0 (sset M.1 4 1 0, M.2)
set_option maxHeartbeats 4000000 in
set_option maxRecDepth 100000 in
theorem cx4_carryOut {l : Launch} {D : va_G} {cI cB cS cJ : ClassId} {K : State → Prop} (E : kE D cI cB cS cJ K) (am : Nat → Nat) (M : Md) (hF : sx4_carryOut M) : kI l D K yX4_carryOut wsX4_carryOut 8 179 [.ref (am 0)] (mdW cI am M) (fx4_carryOut M).1 (mdW cI am ((fx4_carryOut M).2)) := by
  refine kI_of (own := RX4) (cc := cX4_carryOut) (maxL := 3) (tys := kty cI cB cS cJ) (fun U h => (E.2 U h).1) (by decide) rfl rfl (Nat.le_of_ble_eq_true rfl) ?_
  intro p e s m below meth c A ls hx hb hr hml hts hown hlk hKs hK hP hD hA hS hl
  have hl : lv_has ls 3 [(0, .ref (am 0))] := hl
  have hX : CallFix p m c cX4_carryOut 3 s _ wsX4_carryOut RX4 := ⟨hx, hb, hml, hown, hts⟩
  have hinX4 : ∀ w ∈ wsX40, w ∈ wsX4_carryOut := fun w h => List.mem_cons_of_mem _ (List.mem_append_right _ h)
  have q1 := hts (.fieldLink RX4 22 "LabelStationModel" "refusal" "I") (List.mem_of_getElem? (i := 1) rfl)
  have q2 := hts (.fieldLink RX4 128 "LabelStationModel" "length" "I") (List.mem_of_getElem? (i := 2) rfl)
  have q3 := hts (.fieldLink RX4 19 "LabelStationModel" "text" "[I") (List.mem_of_getElem? (i := 3) rfl)
  have q4 := hts (.fieldLink RX4 7 "LabelStationModel" "now" "[I") (List.mem_of_getElem? (i := 4) rfl)
  have q5 := hts (.fieldLink RX4 16 "LabelStationModel" "aside" "[I") (List.mem_of_getElem? (i := 5) rfl)
  generalize hR : fx4_carryOut M = R
  rw [fx4_carryOut] at hR
  rw [sx4_carryOut] at hF
  refine lv_aload_n hx hb dX4_carryOut_0 rfl (lv_at hl 0 rfl) ?_
  refine lv_iconst (v := 0) hx hb dX4_carryOut_1 (by decide) ?_
  refine va_put (D := D) (ci := 4) (v := .int 0) (ty := .int) (C := RX4) (T := TX4) (N := 8) hx hb hts hinX4 tyX4 tyX4_ok nmX4 hown hK hP hD hS 0 rfl rfl 4 (by decide) q1 (fun _ h9 => h9) rfl (by decide +kernel) rfl rfl (Nat.le_of_ble_eq_true rfl) dX4_carryOut_2 (fun H locs hP hD hS => ?_)
  have hP : va_P D vwCl (mdW cI am (sset M.1 4 1 0, M.2)) H := hP
  have hD : va_D A (mdW cI am (sset M.1 4 1 0, M.2)) := hD
  refine lv_iconst (v := 0) hx hb dX4_carryOut_5 (by decide) ?_
  refine lv_istore_n (lv' := [(1, .int 0), (0, .ref (am 0))]) hx hb dX4_carryOut_6 rfl hl (by decide) rfl (fun ls hl => ?_)
  have loop7 : ∀ (n7 : Nat) (y1 : Int32) (M : Md) (H : Heap) (locs : List Loc) (ls : Array Slot), fx4_carryOut_L7 n7 y1 M = R → sx4_carryOut_L7 n7 y1 M → va_P D vwCl (mdW cI am M) H → va_D A (mdW cI am M) → va_S A s.heap H locs → lv_has ls 3 [(1, .int y1), (0, .ref (am 0))] → W p l e (kRm 8 179) s m ([.ref (am 0)] : List Value).toArray below meth c H locs 0 0 (kQI D below R.1 (mdW cI am R.2) A ([.ref (am 0)] : List Value).toArray s) (F0 m 7 ls []) := by
    intro n7
    induction n7 with
    | zero => intro y1 M H locs ls hR hF; exact hF.elim
    | succ n7 ih7 =>
      intro y1 M H locs ls hR hF hP hD hS hl
      rw [fx4_carryOut_L7] at hR
      rw [sx4_carryOut_L7] at hF
      refine lv_iload_n hx hb dX4_carryOut_7 rfl (lv_at hl 0 rfl) ?_
      refine lv_aload_n hx hb dX4_carryOut_8 rfl (lv_at hl 1 rfl) ?_
      refine va_get (D := D) (ci := 4) (v := .int (M.1 4 2)) (C := RX4) (T := TX4) (N := 8) hx hb hts hinX4 hown hK hP 0 rfl rfl 6 (by decide) q2 (fun _ h9 => h9) rfl dX4_carryOut_9 ?_
      refine lv_icmp_ge (tgt := 64) hx hb dX4_carryOut_12 (by decide) (fun c8001 => ?_) (fun c8001 => ?_)
      · rw [if_pos c8001] at hR hF
        refine lv_aload_n hx hb dX4_carryOut_64 rfl (lv_at hl 1 rfl) ?_
        obtain ⟨hs8003, hF⟩ := hF
        refine kcV (ci := 4) (q0 := 0) (As := []) (rest := []) E.1 (cx4_laysAside E am M hs8003) hX (cwV 0 hts gX4_carryOut_X4_laysAside rfl rfl rfl hdX4_laysAside ⟨Nat.le_of_ble_eq_true rfl, Nat.le_of_ble_eq_true rfl⟩) hKs hK hP hD hS hA _ _ (kw_self _) (kw_self _).symm rfl rfl rfl rfl hl.1 (Nat.le_of_ble_eq_true rfl) dX4_carryOut_65 ⟨Nat.zero_le _, Nat.zero_le _⟩ (fun H locs hP hD hS => ?_)
        have hP : va_P D vwCl (mdW cI am (fx4_laysAside M)) H := hP
        have hD : va_D A (mdW cI am (fx4_laysAside M)) := hD
        generalize eM8002 : fx4_laysAside M = M8002 at hR hF hP hD
        replace hR := bnd_e hR
        replace hF := bnd_p hF
        refine lv_iconst (v := 0) hx hb dX4_carryOut_68 (by decide) ?_
        refine lv_istore_n (lv' := [(1, .int 0), (0, .ref (am 0))]) hx hb dX4_carryOut_69 rfl hl (by decide) rfl (fun ls hl => ?_)
        have loop70 : ∀ (n70 : Nat) (y1 : Int32) (M : Md) (H : Heap) (locs : List Loc) (ls : Array Slot), fx4_carryOut_L70 n70 y1 M = R → sx4_carryOut_L70 n70 y1 M → va_P D vwCl (mdW cI am M) H → va_D A (mdW cI am M) → va_S A s.heap H locs → lv_has ls 3 [(1, .int y1), (0, .ref (am 0))] → W p l e (kRm 8 179) s m ([.ref (am 0)] : List Value).toArray below meth c H locs 0 0 (kQI D below R.1 (mdW cI am R.2) A ([.ref (am 0)] : List Value).toArray s) (F0 m 70 ls []) := by
          intro n70
          induction n70 with
          | zero => intro y1 M H locs ls hR hF; exact hF.elim
          | succ n70 ih70 =>
            intro y1 M H locs ls hR hF hP hD hS hl
            rw [fx4_carryOut_L70] at hR
            rw [sx4_carryOut_L70] at hF
            refine lv_iload_n hx hb dX4_carryOut_70 rfl (lv_at hl 0 rfl) ?_
            refine lv_aload_n hx hb dX4_carryOut_71 rfl (lv_at hl 1 rfl) ?_
            refine va_get (D := D) (ci := 4) (v := .int (M.1 4 2)) (C := RX4) (T := TX4) (N := 8) hx hb hts hinX4 hown hK hP 0 rfl rfl 6 (by decide) q2 (fun _ h9 => h9) rfl dX4_carryOut_72 ?_
            refine lv_icmp_ge (tgt := 107) hx hb dX4_carryOut_75 (by decide) (fun c71001 => ?_) (fun c71001 => ?_)
            · rw [if_pos c71001] at hR hF
              refine lv_iconst (v := 0) hx hb dX4_carryOut_107 (by decide) ?_
              refine lv_istore_n (lv' := [(1, .int 0), (0, .ref (am 0))]) hx hb dX4_carryOut_108 rfl hl (by decide) rfl (fun ls hl => ?_)
              have loop109 : ∀ (n109 : Nat) (y1 : Int32) (M : Md) (H : Heap) (locs : List Loc) (ls : Array Slot), fx4_carryOut_L109 n109 y1 M = R → sx4_carryOut_L109 n109 y1 M → va_P D vwCl (mdW cI am M) H → va_D A (mdW cI am M) → va_S A s.heap H locs → lv_has ls 3 [(1, .int y1), (0, .ref (am 0))] → W p l e (kRm 8 179) s m ([.ref (am 0)] : List Value).toArray below meth c H locs 0 0 (kQI D below R.1 (mdW cI am R.2) A ([.ref (am 0)] : List Value).toArray s) (F0 m 109 ls []) := by
                intro n109
                induction n109 with
                | zero => intro y1 M H locs ls hR hF; exact hF.elim
                | succ n109 ih109 =>
                  intro y1 M H locs ls hR hF hP hD hS hl
                  rw [fx4_carryOut_L109] at hR
                  rw [sx4_carryOut_L109] at hF
                  refine lv_iload_n hx hb dX4_carryOut_109 rfl (lv_at hl 0 rfl) ?_
                  refine lv_sipush (v := 1203) hx hb dX4_carryOut_110 (by decide) ?_
                  refine lv_icmp_ge (tgt := 148) hx hb dX4_carryOut_113 (by decide) (fun c110001 => ?_) (fun c110001 => ?_)
                  · rw [if_pos c110001] at hR hF
                    refine lv_aload_n hx hb dX4_carryOut_148 rfl (lv_at hl 1 rfl) ?_
                    obtain ⟨hs110005, hF⟩ := hF
                    refine kcV (ci := 4) (q0 := 0) (As := []) (rest := []) E.1 (cx4_saves E am M hs110005) hX (cwV 0 hts gX4_carryOut_X4_saves rfl rfl rfl hdX4_saves ⟨Nat.le_of_ble_eq_true rfl, Nat.le_of_ble_eq_true rfl⟩) hKs hK hP hD hS hA _ _ (kw_self _) (kw_self _).symm rfl rfl rfl rfl hl.1 (Nat.le_of_ble_eq_true rfl) dX4_carryOut_149 ⟨Nat.zero_le _, Nat.zero_le _⟩ (fun H locs hP hD hS => ?_)
                    have hP : va_P D vwCl (mdW cI am (fx4_saves M)) H := hP
                    have hD : va_D A (mdW cI am (fx4_saves M)) := hD
                    generalize eM110002 : fx4_saves M = M110002 at hR hF hP hD
                    replace hR := bnd_e hR
                    replace hF := bnd_p hF
                    refine lv_aload_n hx hb dX4_carryOut_152 rfl (lv_at hl 1 rfl) ?_
                    have hs110004 := hF
                    refine kcV (ci := 4) (q0 := 0) (As := []) (rest := []) E.1 (cx4_takesBack E am M110002 hs110004) hX (cwV 0 hts gX4_carryOut_X4_takesBack rfl rfl rfl hdX4_takesBack ⟨Nat.le_of_ble_eq_true rfl, Nat.le_of_ble_eq_true rfl⟩) hKs hK hP hD hS hA _ _ (kw_self _) (kw_self _).symm rfl rfl rfl rfl hl.1 (Nat.le_of_ble_eq_true rfl) dX4_carryOut_153 ⟨Nat.zero_le _, Nat.zero_le _⟩ (fun H locs hP hD hS => ?_)
                    have hP : va_P D vwCl (mdW cI am (fx4_takesBack M110002)) H := hP
                    have hD : va_D A (mdW cI am (fx4_takesBack M110002)) := hD
                    generalize eM110003 : fx4_takesBack M110002 = M110003 at hR hP hD
                    replace hR := bnd_e hR
                    refine lv_aload_n hx hb dX4_carryOut_156 rfl (lv_at hl 1 rfl) ?_
                    refine va_get (D := D) (ci := 4) (v := .int (M110003.1 4 2)) (C := RX4) (T := TX4) (N := 8) hx hb hts hinX4 hown hK hP 0 rfl rfl 6 (by decide) q2 (fun _ h9 => h9) rfl dX4_carryOut_157 ?_
                    subst hR
                    exact krI hx hb hr hlk hP hD hS dX4_carryOut_160 rfl rfl
                  · rw [if_neg c110001] at hR hF
                    refine lv_aload_n hx hb dX4_carryOut_116 rfl (lv_at hl 1 rfl) ?_
                    refine va_get (D := D) (ci := 4) (v := .ref (am 1)) (C := RX4) (T := TX4) (N := 8) hx hb hts hinX4 hown hK hP 0 rfl rfl 0 (by decide) q4 (fun _ h9 => h9) rfl dX4_carryOut_117 ?_
                    refine lv_iload_n hx hb dX4_carryOut_120 rfl (lv_at hl 0 rfl) ?_
                    obtain ⟨hi110006, hF⟩ := hF
                    refine va_iald hx hb hK hP 1 0 rfl rfl hi110006 dX4_carryOut_121 ?_
                    refine lv_istore_n (lv' := [(2, .int ((M.1 0) (y1).toNatClampNeg)), (1, .int y1), (0, .ref (am 0))]) hx hb dX4_carryOut_122 rfl hl (by decide) rfl (fun ls hl => ?_)
                    refine lv_aload_n hx hb dX4_carryOut_123 rfl (lv_at hl 2 rfl) ?_
                    refine va_get (D := D) (ci := 4) (v := .ref (am 1)) (C := RX4) (T := TX4) (N := 8) hx hb hts hinX4 hown hK hP 0 rfl rfl 0 (by decide) q4 (fun _ h9 => h9) rfl dX4_carryOut_124 ?_
                    refine lv_iload_n hx hb dX4_carryOut_127 rfl (lv_at hl 1 rfl) ?_
                    refine lv_aload_n hx hb dX4_carryOut_128 rfl (lv_at hl 2 rfl) ?_
                    refine va_get (D := D) (ci := 4) (v := .ref (am 3)) (C := RX4) (T := TX4) (N := 8) hx hb hts hinX4 hown hK hP 0 rfl rfl 2 (by decide) q5 (fun _ h9 => h9) rfl dX4_carryOut_129 ?_
                    refine lv_iload_n hx hb dX4_carryOut_132 rfl (lv_at hl 1 rfl) ?_
                    obtain ⟨hi110007, hF⟩ := hF
                    refine va_iald hx hb hK hP 3 0 rfl rfl hi110007 dX4_carryOut_133 ?_
                    obtain ⟨hi110008, hF⟩ := hF
                    refine va_iast hx hb hK hP hD hS 1 0 rfl rfl hi110008 dX4_carryOut_134 (fun H locs hP hD hS => ?_)
                    have hP : va_P D vwCl (mdW cI am (va_up M.1 0 (upd (M.1 0) (y1).toNatClampNeg ((M.1 2) (y1).toNatClampNeg)), M.2)) H := hP
                    have hD : va_D A (mdW cI am (va_up M.1 0 (upd (M.1 0) (y1).toNatClampNeg ((M.1 2) (y1).toNatClampNeg)), M.2)) := hD
                    generalize eg110009 : upd (M.1 0) (y1).toNatClampNeg ((M.1 2) (y1).toNatClampNeg) = g110009 at hR hP hD hF
                    replace hR := bnd_e hR
                    replace hF := bnd_p hF
                    refine lv_aload_n hx hb dX4_carryOut_135 rfl (lv_at hl 2 rfl) ?_
                    refine va_get (D := D) (ci := 4) (v := .ref (am 3)) (C := RX4) (T := TX4) (N := 8) hx hb hts hinX4 hown hK hP 0 rfl rfl 2 (by decide) q5 (fun _ h9 => h9) rfl dX4_carryOut_136 ?_
                    refine lv_iload_n hx hb dX4_carryOut_139 rfl (lv_at hl 1 rfl) ?_
                    refine lv_iload_n hx hb dX4_carryOut_140 rfl (lv_at hl 0 rfl) ?_
                    obtain ⟨hi110010, hF⟩ := hF
                    refine va_iast hx hb hK hP hD hS 3 0 rfl rfl hi110010 dX4_carryOut_141 (fun H locs hP hD hS => ?_)
                    have hP : va_P D vwCl (mdW cI am (va_up (va_up M.1 0 g110009) 2 (upd (M.1 2) (y1).toNatClampNeg ((M.1 0) (y1).toNatClampNeg)), M.2)) H := hP
                    have hD : va_D A (mdW cI am (va_up (va_up M.1 0 g110009) 2 (upd (M.1 2) (y1).toNatClampNeg ((M.1 0) (y1).toNatClampNeg)), M.2)) := hD
                    generalize eg110011 : upd (M.1 2) (y1).toNatClampNeg ((M.1 0) (y1).toNatClampNeg) = g110011 at hR hP hD hF
                    replace hR := bnd_e hR
                    replace hF := bnd_p hF
                    refine lv_iinc (v := y1 + 1) (lv' := [(1, .int (y1 + 1)), (2, .int ((M.1 0) (y1).toNatClampNeg)), (0, .ref (am 0))]) hx hb dX4_carryOut_142 hl (k := 1) rfl rfl (by decide) rfl (fun ls hl => ?_)
                    refine lv_goto (tgt := 109) hx hb dX4_carryOut_145 (by decide) ?_
                    exact ih109 (y1 + 1) (va_up (va_up M.1 0 g110009) 2 g110011, M.2) _ _ ls hR hF hP hD hS (lv_sub hl [0, 2] rfl)
              exact loop109 kfu 0 M _ _ ls hR hF hP hD hS (lv_sub hl [0, 1] rfl)
            · rw [if_neg c71001] at hR hF
              refine lv_aload_n hx hb dX4_carryOut_78 rfl (lv_at hl 1 rfl) ?_
              refine lv_aload_n hx hb dX4_carryOut_79 rfl (lv_at hl 1 rfl) ?_
              refine va_get (D := D) (ci := 4) (v := .ref (am 4)) (C := RX4) (T := TX4) (N := 8) hx hb hts hinX4 hown hK hP 0 rfl rfl 5 (by decide) q3 (fun _ h9 => h9) rfl dX4_carryOut_80 ?_
              refine lv_iload_n hx hb dX4_carryOut_83 rfl (lv_at hl 0 rfl) ?_
              obtain ⟨hi71002, hF⟩ := hF
              refine va_iald hx hb hK hP 4 0 rfl rfl hi71002 dX4_carryOut_84 ?_
              obtain ⟨hs71007, hF⟩ := hF
              refine kcI (ci := 4) (q0 := 0) (As := [.int ((M.1 3) (y1).toNatClampNeg)]) (rest := []) E.1 (cx4_does E am (M.1 4 0) (M.1 4 1) (M.1 4 2) M.2 (M.1 0) ((M.1 3) (y1).toNatClampNeg) hs71007) hX (cwV 1 hts gX4_carryOut_X4_does rfl rfl rfl hdX4_does ⟨Nat.le_of_ble_eq_true rfl, Nat.le_of_ble_eq_true rfl⟩) hKs hK hP hD hS hA _ _ (md_mn cI am M) (md_mn' cI am M _) rfl rfl rfl rfl hl.1 (Nat.le_of_ble_eq_true rfl) dX4_carryOut_85 ⟨Nat.zero_le _, Nat.zero_le _⟩ (fun H locs hP hD hS => ?_)
              have hP : va_P D vwCl (mdW cI am (va_up M.1 0 ((fx4_does (M.1 0) ((M.1 3) (y1).toNatClampNeg)).2), M.2)) H := hP
              have hD : va_D A (mdW cI am (va_up M.1 0 ((fx4_does (M.1 0) ((M.1 3) (y1).toNatClampNeg)).2), M.2)) := hD
              generalize eu71003 : fx4_does (M.1 0) ((M.1 3) (y1).toNatClampNeg) = u71003 at hR hF hP hD ⊢
              replace hR := bnd_e hR
              replace hF := bnd_p hF
              refine lv_if_ne (tgt := 101) hx hb dX4_carryOut_88 (by decide) (fun c71004 => ?_) (fun c71004 => ?_)
              · rw [if_neg c71004] at hR hF
                refine lv_iinc (v := y1 + 1) (lv' := [(1, .int (y1 + 1)), (0, .ref (am 0))]) hx hb dX4_carryOut_101 hl (k := 0) rfl rfl (by decide) rfl (fun ls hl => ?_)
                refine lv_goto (tgt := 70) hx hb dX4_carryOut_104 (by decide) ?_
                exact ih70 (y1 + 1) (va_up M.1 0 u71003.2, M.2) _ _ ls hR hF hP hD hS (lv_sub hl [0, 1] rfl)
              · rw [if_pos c71004] at hR hF
                refine lv_aload_n hx hb dX4_carryOut_91 rfl (lv_at hl 1 rfl) ?_
                have hs71006 := hF
                refine kcV (ci := 4) (q0 := 0) (As := []) (rest := []) E.1 (cx4_takesBack E am (va_up M.1 0 u71003.2, M.2) hs71006) hX (cwV 0 hts gX4_carryOut_X4_takesBack rfl rfl rfl hdX4_takesBack ⟨Nat.le_of_ble_eq_true rfl, Nat.le_of_ble_eq_true rfl⟩) hKs hK hP hD hS hA _ _ (kw_self _) (kw_self _).symm rfl rfl rfl rfl hl.1 (Nat.le_of_ble_eq_true rfl) dX4_carryOut_92 ⟨Nat.zero_le _, Nat.zero_le _⟩ (fun H locs hP hD hS => ?_)
                have hP : va_P D vwCl (mdW cI am (fx4_takesBack (va_up M.1 0 u71003.2, M.2))) H := hP
                have hD : va_D A (mdW cI am (fx4_takesBack (va_up M.1 0 u71003.2, M.2))) := hD
                generalize eM71005 : fx4_takesBack (va_up M.1 0 u71003.2, M.2) = M71005 at hR hP hD
                replace hR := bnd_e hR
                refine lv_sipush (v := (-1000)) hx hb dX4_carryOut_95 (by decide) ?_
                refine lv_iload_n hx hb dX4_carryOut_98 rfl (lv_at hl 0 rfl) ?_
                refine lv_isub hx hb dX4_carryOut_99 ?_
                subst hR
                exact krI hx hb hr hlk hP hD hS dX4_carryOut_100 rfl rfl
        exact loop70 kfu 0 M8002 _ _ ls hR hF hP hD hS (lv_sub hl [0, 1] rfl)
      · rw [if_neg c8001] at hR hF
        refine lv_aload_n hx hb dX4_carryOut_15 rfl (lv_at hl 1 rfl) ?_
        refine va_get (D := D) (ci := 4) (v := .ref (am 4)) (C := RX4) (T := TX4) (N := 8) hx hb hts hinX4 hown hK hP 0 rfl rfl 5 (by decide) q3 (fun _ h9 => h9) rfl dX4_carryOut_16 ?_
        refine lv_iload_n hx hb dX4_carryOut_19 rfl (lv_at hl 0 rfl) ?_
        obtain ⟨hi8004, hF⟩ := hF
        refine va_iald hx hb hK hP 4 0 rfl rfl hi8004 dX4_carryOut_20 ?_
        refine lv_bipush (v := 48) hx hb dX4_carryOut_21 (by decide) ?_
        refine lv_bipush (v := 51) hx hb dX4_carryOut_23 (by decide) ?_
        refine kcsI (As := [.int ((M.1 3) (y1).toNatClampNeg), .int 48, .int 51]) (rest := []) E.1 (cx4_within E ((M.1 3) (y1).toNatClampNeg) 48 51) hX (va_cwS 3 hts gX4_carryOut_X4_within rfl rfl rfl hdX4_within.2 ⟨Nat.le_of_ble_eq_true rfl, Nat.le_of_ble_eq_true rfl⟩) hKs hP hD hS hA _ _ (kw_nil _) (kw_nil _).symm rfl rfl hl.1 (Nat.le_of_ble_eq_true rfl) dX4_carryOut_25 ⟨Nat.zero_le _, Nat.zero_le _⟩ (fun H locs hP hD hS => ?_)
        refine lv_if_ne (tgt := 58) hx hb dX4_carryOut_28 (by decide) (fun c8005 => ?_) (fun c8005 => ?_)
        · rw [if_neg c8005] at hR hF
          refine lv_iinc (v := y1 + 1) (lv' := [(1, .int (y1 + 1)), (0, .ref (am 0))]) hx hb dX4_carryOut_58 hl (k := 0) rfl rfl (by decide) rfl (fun ls hl => ?_)
          refine lv_goto (tgt := 7) hx hb dX4_carryOut_61 (by decide) ?_
          exact ih7 (y1 + 1) M _ _ ls hR hF hP hD hS (lv_sub hl [0, 1] rfl)
        · rw [if_pos c8005] at hR hF
          refine lv_aload_n hx hb dX4_carryOut_31 rfl (lv_at hl 1 rfl) ?_
          refine va_get (D := D) (ci := 4) (v := .ref (am 4)) (C := RX4) (T := TX4) (N := 8) hx hb hts hinX4 hown hK hP 0 rfl rfl 5 (by decide) q3 (fun _ h9 => h9) rfl dX4_carryOut_32 ?_
          refine lv_iload_n hx hb dX4_carryOut_35 rfl (lv_at hl 0 rfl) ?_
          obtain ⟨hi8006, hF⟩ := hF
          refine va_iald hx hb hK hP 4 0 rfl rfl hi8006 dX4_carryOut_36 ?_
          refine lv_bipush (v := 46) hx hb dX4_carryOut_37 (by decide) ?_
          refine lv_icmp_eq (tgt := 58) hx hb dX4_carryOut_39 (by decide) (fun c8007 => ?_) (fun c8007 => ?_)
          · rw [if_pos c8007] at hR hF
            refine lv_iinc (v := y1 + 1) (lv' := [(1, .int (y1 + 1)), (0, .ref (am 0))]) hx hb dX4_carryOut_58 hl (k := 0) rfl rfl (by decide) rfl (fun ls hl => ?_)
            refine lv_goto (tgt := 7) hx hb dX4_carryOut_61 (by decide) ?_
            exact ih7 (y1 + 1) M _ _ ls hR hF hP hD hS (lv_sub hl [0, 1] rfl)
          · rw [if_neg c8007] at hR hF
            refine lv_aload_n hx hb dX4_carryOut_42 rfl (lv_at hl 1 rfl) ?_
            refine va_get (D := D) (ci := 4) (v := .ref (am 4)) (C := RX4) (T := TX4) (N := 8) hx hb hts hinX4 hown hK hP 0 rfl rfl 5 (by decide) q3 (fun _ h9 => h9) rfl dX4_carryOut_43 ?_
            refine lv_iload_n hx hb dX4_carryOut_46 rfl (lv_at hl 0 rfl) ?_
            obtain ⟨hi8008, hF⟩ := hF
            refine va_iald hx hb hK hP 4 0 rfl rfl hi8008 dX4_carryOut_47 ?_
            refine lv_bipush (v := 58) hx hb dX4_carryOut_48 (by decide) ?_
            refine lv_icmp_eq (tgt := 58) hx hb dX4_carryOut_50 (by decide) (fun c8009 => ?_) (fun c8009 => ?_)
            · rw [if_pos c8009] at hR hF
              refine lv_iinc (v := y1 + 1) (lv' := [(1, .int (y1 + 1)), (0, .ref (am 0))]) hx hb dX4_carryOut_58 hl (k := 0) rfl rfl (by decide) rfl (fun ls hl => ?_)
              refine lv_goto (tgt := 7) hx hb dX4_carryOut_61 (by decide) ?_
              exact ih7 (y1 + 1) M _ _ ls hR hF hP hD hS (lv_sub hl [0, 1] rfl)
            · rw [if_neg c8009] at hR hF
              refine lv_bipush (v := (-10)) hx hb dX4_carryOut_53 (by decide) ?_
              refine lv_iload_n hx hb dX4_carryOut_55 rfl (lv_at hl 0 rfl) ?_
              refine lv_isub hx hb dX4_carryOut_56 ?_
              subst hR
              exact krI hx hb hr hlk hP hD hS dX4_carryOut_57 rfl rfl
  exact loop7 kfu 0 (sset M.1 4 1 0, M.2) _ _ ls hR hF hP hD hS (lv_sub hl [0, 1] rfl)

theorem hdX4_mix : yX4_mix.cls = RX4 ∧ yX4_mix.cls ≠ "java/lang/invoke/MethodHandle" ∧ yX4_mix.cls ≠ "java/lang/invoke/VarHandle" ∧ (parseMethodDescriptor yX4_mix.desc).map (fun d => d.parameters.length) = some 1 := by decide +kernel
def fx4_mix (M : Md) (x1 : Int32) : Md := (M.1, (31 * M.2) + ((x1).toInt64))
set_option maxHeartbeats 4000000 in
set_option maxRecDepth 100000 in
theorem cx4_mix {l : Launch} {D : va_G} {cI cB cS cJ : ClassId} {K : State → Prop} (E : kE D cI cB cS cJ K) (am : Nat → Nat) (M : Md) (x1 : Int32) : kV l D K yX4_mix wsX4_mix 0 0 [.ref (am 0), .int x1] (mdW cI am M)  (mdW cI am (fx4_mix M x1)) := by
  refine kV_of (own := RX4) (cc := cX4_mix) (maxL := 2) (tys := kty cI cB cS cJ) (fun U h => (E.2 U h).1) (by decide) rfl rfl (Nat.le_of_ble_eq_true rfl) ?_
  intro p e s m below meth c A ls hx hb hr hml hts hown hlk hKs hK hP hD hA hS hl
  have hl : lv_has ls 2 [(0, .ref (am 0)), (1, .int x1)] := hl
  have hX : CallFix p m c cX4_mix 2 s _ wsX4_mix RX4 := ⟨hx, hb, hml, hown, hts⟩
  have hinX4 : ∀ w ∈ wsX40, w ∈ wsX4_mix := fun w h => List.mem_cons_of_mem _ (List.mem_append_right _ h)
  have q1 := hts (.constantLong RX4 134 (31)) (List.mem_of_getElem? (i := 1) rfl)
  have q2 := hts (.fieldLink RX4 136 "LabelStationModel" "hash" "J") (List.mem_of_getElem? (i := 2) rfl)
  generalize hR : fx4_mix M x1 = R
  rw [fx4_mix] at hR
  refine lv_aload_n hx hb dX4_mix_0 rfl (lv_at hl 0 rfl) ?_
  refine lv_ldc2 (v := 31) hx hb hown q1 dX4_mix_1 ?_
  refine lv_aload_n hx hb dX4_mix_4 rfl (lv_at hl 0 rfl) ?_
  refine va_get (D := D) (ci := 4) (v := .long M.2) (C := RX4) (T := TX4) (N := 8) hx hb hts hinX4 hown hK hP 0 rfl rfl 7 (by decide) q2 (fun _ h9 => h9) rfl dX4_mix_5 ?_
  refine lv_lmul hx hb dX4_mix_8 ?_
  refine lv_iload_n hx hb dX4_mix_9 rfl (lv_at hl 1 rfl) ?_
  refine lv_i2l hx hb dX4_mix_10 rfl ?_
  refine lv_ladd hx hb dX4_mix_11 ?_
  refine va_put (D := D) (ci := 4) (v := .long ((31 * M.2) + ((x1).toInt64))) (ty := .long) (C := RX4) (T := TX4) (N := 8) hx hb hts hinX4 tyX4 tyX4_ok nmX4 hown hK hP hD hS 0 rfl rfl 7 (by decide) q2 (fun _ h9 => h9) rfl (by decide +kernel) rfl rfl (Nat.le_of_ble_eq_true rfl) dX4_mix_12 (fun H locs hP hD hS => ?_)
  have hP : va_P D vwCl (mdW cI am (M.1, (31 * M.2) + ((x1).toInt64))) H := hP
  have hD : va_D A (mdW cI am (M.1, (31 * M.2) + ((x1).toInt64))) := hD
  subst hR
  exact krV hx hb hr hlk hP hD hS dX4_mix_15 rfl

theorem hdX4_mixAll : yX4_mixAll.cls = RX4 ∧ yX4_mixAll.cls ≠ "java/lang/invoke/MethodHandle" ∧ yX4_mixAll.cls ≠ "java/lang/invoke/VarHandle" ∧ (parseMethodDescriptor yX4_mixAll.desc).map (fun d => d.parameters.length) = some 2 := by decide +kernel
def fx4_mixAll_L2 : Nat → Int32 → Int32 → Int32 → Md → Md
  | 0, _, _, _, M => M
  | n2 + 1, y1, y2, y3, M => (if (y1 + y2) ≤ y3 then M else (bnd (fx4_mix M ((M.1 0) (y3).toNatClampNeg)) (fun M3003 => fx4_mixAll_L2 n2 y1 y2 (y3 + 1) M3003)))
def sx4_mixAll_L2 : Nat → Int32 → Int32 → Int32 → Md → Prop
  | 0, _, _, _, _ => False
  | n2 + 1, y1, y2, y3, M => (if (y1 + y2) ≤ y3 then True else (vp_in (y3) 1203 ∧ (bnd (fx4_mix M ((M.1 0) (y3).toNatClampNeg)) (fun M3003 => sx4_mixAll_L2 n2 y1 y2 (y3 + 1) M3003))))
def fx4_mixAll (M : Md) (x1 : Int32) (x2 : Int32) : Md := fx4_mixAll_L2 kfu x1 x2 x1 M
def sx4_mixAll (M : Md) (x1 : Int32) (x2 : Int32) : Prop := sx4_mixAll_L2 kfu x1 x2 x1 M
set_option maxHeartbeats 4000000 in
set_option maxRecDepth 100000 in
theorem cx4_mixAll {l : Launch} {D : va_G} {cI cB cS cJ : ClassId} {K : State → Prop} (E : kE D cI cB cS cJ K) (am : Nat → Nat) (M : Md) (x1 : Int32) (x2 : Int32) (hF : sx4_mixAll M x1 x2) : kV l D K yX4_mixAll wsX4_mixAll 1 21 [.ref (am 0), .int x1, .int x2] (mdW cI am M)  (mdW cI am (fx4_mixAll M x1 x2)) := by
  refine kV_of (own := RX4) (cc := cX4_mixAll) (maxL := 4) (tys := kty cI cB cS cJ) (fun U h => (E.2 U h).1) (by decide) rfl rfl (Nat.le_of_ble_eq_true rfl) ?_
  intro p e s m below meth c A ls hx hb hr hml hts hown hlk hKs hK hP hD hA hS hl
  have hl : lv_has ls 4 [(0, .ref (am 0)), (1, .int x1), (2, .int x2)] := hl
  have hX : CallFix p m c cX4_mixAll 4 s _ wsX4_mixAll RX4 := ⟨hx, hb, hml, hown, hts⟩
  have hinX4 : ∀ w ∈ wsX40, w ∈ wsX4_mixAll := fun w h => List.mem_cons_of_mem _ (List.mem_append_right _ h)
  have q1 := hts (.fieldLink RX4 7 "LabelStationModel" "now" "[I") (List.mem_of_getElem? (i := 1) rfl)
  generalize hR : fx4_mixAll M x1 x2 = R
  rw [fx4_mixAll] at hR
  rw [sx4_mixAll] at hF
  refine lv_iload_n hx hb dX4_mixAll_0 rfl (lv_at hl 1 rfl) ?_
  refine lv_istore_n (lv' := [(3, .int x1), (0, .ref (am 0)), (1, .int x1), (2, .int x2)]) hx hb dX4_mixAll_1 rfl hl (by decide) rfl (fun ls hl => ?_)
  have loop2 : ∀ (n2 : Nat) (y1 : Int32) (y2 : Int32) (y3 : Int32) (M : Md) (H : Heap) (locs : List Loc) (ls : Array Slot), fx4_mixAll_L2 n2 y1 y2 y3 M = R → sx4_mixAll_L2 n2 y1 y2 y3 M → va_P D vwCl (mdW cI am M) H → va_D A (mdW cI am M) → va_S A s.heap H locs → lv_has ls 4 [(1, .int y1), (2, .int y2), (3, .int y3), (0, .ref (am 0))] → W p l e (kRm 1 21) s m ([.ref (am 0), .int x1, .int x2] : List Value).toArray below meth c H locs 0 0 (kQV D below (mdW cI am R) A ([.ref (am 0), .int x1, .int x2] : List Value).toArray s) (F0 m 2 ls []) := by
    intro n2
    induction n2 with
    | zero => intro y1 y2 y3 M H locs ls hR hF; exact hF.elim
    | succ n2 ih2 =>
      intro y1 y2 y3 M H locs ls hR hF hP hD hS hl
      rw [fx4_mixAll_L2] at hR
      rw [sx4_mixAll_L2] at hF
      refine lv_iload_n hx hb dX4_mixAll_2 rfl (lv_at hl 2 rfl) ?_
      refine lv_iload_n hx hb dX4_mixAll_3 rfl (lv_at hl 0 rfl) ?_
      refine lv_iload_n hx hb dX4_mixAll_4 rfl (lv_at hl 1 rfl) ?_
      refine lv_iadd hx hb dX4_mixAll_5 ?_
      refine lv_icmp_ge (tgt := 25) hx hb dX4_mixAll_6 (by decide) (fun c3001 => ?_) (fun c3001 => ?_)
      · rw [if_pos c3001] at hR hF
        subst hR
        exact krV hx hb hr hlk hP hD hS dX4_mixAll_25 rfl
      · rw [if_neg c3001] at hR hF
        refine lv_aload_n hx hb dX4_mixAll_9 rfl (lv_at hl 3 rfl) ?_
        refine lv_aload_n hx hb dX4_mixAll_10 rfl (lv_at hl 3 rfl) ?_
        refine va_get (D := D) (ci := 4) (v := .ref (am 1)) (C := RX4) (T := TX4) (N := 8) hx hb hts hinX4 hown hK hP 0 rfl rfl 0 (by decide) q1 (fun _ h9 => h9) rfl dX4_mixAll_11 ?_
        refine lv_iload_n hx hb dX4_mixAll_14 rfl (lv_at hl 2 rfl) ?_
        obtain ⟨hi3002, hF⟩ := hF
        refine va_iald hx hb hK hP 1 0 rfl rfl hi3002 dX4_mixAll_15 ?_
        refine kcV (ci := 4) (q0 := 0) (As := [.int ((M.1 0) (y3).toNatClampNeg)]) (rest := []) E.1 (cx4_mix E am M ((M.1 0) (y3).toNatClampNeg)) hX (cwV 1 hts gX4_mixAll_X4_mix rfl rfl rfl hdX4_mix ⟨Nat.le_of_ble_eq_true rfl, Nat.le_of_ble_eq_true rfl⟩) hKs hK hP hD hS hA _ _ (kw_self _) (kw_self _).symm rfl rfl rfl rfl hl.1 (Nat.le_of_ble_eq_true rfl) dX4_mixAll_16 ⟨Nat.zero_le _, Nat.zero_le _⟩ (fun H locs hP hD hS => ?_)
        have hP : va_P D vwCl (mdW cI am (fx4_mix M ((M.1 0) (y3).toNatClampNeg))) H := hP
        have hD : va_D A (mdW cI am (fx4_mix M ((M.1 0) (y3).toNatClampNeg))) := hD
        generalize eM3003 : fx4_mix M ((M.1 0) (y3).toNatClampNeg) = M3003 at hR hF hP hD
        replace hR := bnd_e hR
        replace hF := bnd_p hF
        refine lv_iinc (v := y3 + 1) (lv' := [(3, .int (y3 + 1)), (1, .int y1), (2, .int y2), (0, .ref (am 0))]) hx hb dX4_mixAll_19 hl (k := 2) rfl rfl (by decide) rfl (fun ls hl => ?_)
        refine lv_goto (tgt := 2) hx hb dX4_mixAll_22 (by decide) ?_
        exact ih2 y1 y2 (y3 + 1) M3003 _ _ ls hR hF hP hD hS (lv_sub hl [1, 2, 0, 3] rfl)
  exact loop2 kfu x1 x2 x1 M _ _ ls hR hF hP hD hS (lv_sub hl [2, 3, 0, 1] rfl)

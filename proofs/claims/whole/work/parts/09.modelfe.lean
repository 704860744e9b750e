/-! the model, whole: printed by my own program (gen.py) out of the listing -/
theorem hdX4_carryOut : yX4_carryOut.cls = RX4 ∧ yX4_carryOut.cls ≠ "java/lang/invoke/MethodHandle" ∧ yX4_carryOut.cls ≠ "java/lang/invoke/VarHandle" ∧ (parseMethodDescriptor yX4_carryOut.desc).map (fun d => d.parameters.length) = some 0 := by decide +kernel
def fx4_carryOut_L109 : Nat → Int32 → Md → Int32 × (Md)
  | 0, _, M => (0, M)
  | n109 + 1, y1, M => (if 1203 ≤ y1 then (bnd (fx4_saves M) (fun M110002 => (bnd (fx4_takesBack M110002) (fun M110003 => (M110003.1 4 2, M110003))))) else (bnd (upd (M.1 0) (y1).toNatClampNeg ((M.1 2) (y1).toNatClampNeg)) (fun g110009 => (bnd (upd (M.1 2) (y1).toNatClampNeg ((M.1 0) (y1).toNatClampNeg)) (fun g110011 => fx4_carryOut_L109 n109 (y1 + 1) (va_up (va_up M.1 0 g110009) 2 g110011, M.2))))))
def sx4_carryOut_L109 : Nat → Int32 → Md → Prop
  | 0, _, _ => False
  | n109 + 1, y1, M => (if 1203 ≤ y1 then (sx4_saves M ∧ (bnd (fx4_saves M) (fun M110002 => sx4_takesBack M110002))) else (vp_in (y1) 1203 ∧ (vp_in (y1) 1203 ∧ (vp_in (y1) 1203 ∧ (bnd (upd (M.1 0) (y1).toNatClampNeg ((M.1 2) (y1).toNatClampNeg)) (fun g110009 => (vp_in (y1) 1203 ∧ (bnd (upd (M.1 2) (y1).toNatClampNeg ((M.1 0) (y1).toNatClampNeg)) (fun g110011 => sx4_carryOut_L109 n109 (y1 + 1) (va_up (va_up M.1 0 g110009) 2 g110011, M.2))))))))))
def fx4_carryOut_L70 : Nat → Int32 → Md → Int32 × (Md)
  | 0, _, M => (0, M)
  | n70 + 1, y1, M => (if (M.1 4 2) ≤ y1 then fx4_carryOut_L109 kfu 0 M else (bnd (fx4_does (M.1 0) ((M.1 3) (y1).toNatClampNeg)) (fun u71003 => (if u71003.1 = 0 then (bnd (fx4_takesBack (va_up M.1 0 u71003.2, M.2)) (fun M71005 => ((-1000) - y1, M71005))) else fx4_carryOut_L70 n70 (y1 + 1) (va_up M.1 0 u71003.2, M.2)))))
def sx4_carryOut_L70 : Nat → Int32 → Md → Prop
  | 0, _, _ => False
  | n70 + 1, y1, M => (if (M.1 4 2) ≤ y1 then sx4_carryOut_L109 kfu 0 M else (vp_in (y1) 80 ∧ (sx4_does (M.1 0) ((M.1 3) (y1).toNatClampNeg) ∧ (bnd (fx4_does (M.1 0) ((M.1 3) (y1).toNatClampNeg)) (fun u71003 => (if u71003.1 = 0 then sx4_takesBack (va_up M.1 0 u71003.2, M.2) else sx4_carryOut_L70 n70 (y1 + 1) (va_up M.1 0 u71003.2, M.2)))))))
def fx4_carryOut_L7 : Nat → Int32 → Md → Int32 × (Md)
  | 0, _, M => (0, M)
  | n7 + 1, y1, M => (if (M.1 4 2) ≤ y1 then (bnd (fx4_laysAside M) (fun M8002 => fx4_carryOut_L70 kfu 0 M8002)) else (if (fx4_within ((M.1 3) (y1).toNatClampNeg) 48 51) = 0 then (if ((M.1 3) (y1).toNatClampNeg) = 46 then fx4_carryOut_L7 n7 (y1 + 1) M else (if ((M.1 3) (y1).toNatClampNeg) = 58 then fx4_carryOut_L7 n7 (y1 + 1) M else ((-10) - y1, M))) else fx4_carryOut_L7 n7 (y1 + 1) M))
def sx4_carryOut_L7 : Nat → Int32 → Md → Prop
  | 0, _, _ => False
  | n7 + 1, y1, M => (if (M.1 4 2) ≤ y1 then (sx4_laysAside M ∧ (bnd (fx4_laysAside M) (fun M8002 => sx4_carryOut_L70 kfu 0 M8002))) else (vp_in (y1) 80 ∧ (if (fx4_within ((M.1 3) (y1).toNatClampNeg) 48 51) = 0 then (vp_in (y1) 80 ∧ (if ((M.1 3) (y1).toNatClampNeg) = 46 then sx4_carryOut_L7 n7 (y1 + 1) M else (vp_in (y1) 80 ∧ (if ((M.1 3) (y1).toNatClampNeg) = 58 then sx4_carryOut_L7 n7 (y1 + 1) M else True)))) else sx4_carryOut_L7 n7 (y1 + 1) M)))
def fx4_carryOut (M : Md) : Int32 × (Md) := fx4_carryOut_L7 kfu 0 (sset M.1 4 1 0, M.2)
def sx4_carryOut (M : Md) : Prop := sx4_carryOut_L7 kfu 0 (sset M.1 4 1 0, M.2)
set_option maxHeartbeats 4000000 in
set_option maxRecDepth 100000 in
theorem cx4_carryOut {l : Launch} {D : va_G} {cI cB cS cJ : ClassId} {K : State → Prop} (E : kE D cI cB cS cJ K) (am : Nat → Nat) (M : Md) (hF : sx4_carryOut M) : kI l D K yX4_carryOut wsX4_carryOut 8 179 [.ref (am 0)] (mdW cI am M) (fx4_carryOut M).1 (mdW cI am ((fx4_carryOut M).2)) := by
  refine kI_of (own := RX4) (cc := cX4_carryOut) (maxL := 3) (tys := kty cI cB cS cJ) (fun U h => (E.2 U h).1) (by decide) rfl rfl (Nat.le_of_ble_eq_true rfl) ?_
  intro p e s m below meth c A ls hx hb hr hml hts hown hlk hKs hK hP hD hA hS hl
  have hl : lv_has ls 3 [(0, .ref (am 0))] := hl
  have hX : CallFix p m c cX4_carryOut 3 s _ wsX4_carryOut RX4 := ⟨hx, hb, hml, hown, hts⟩
  have hinX4 : ∀ w ∈ wsX40, w ∈ wsX4_carryOut := fun w h => List.mem_cons_of_mem _ (List.mem_append_right _ h)
  have q1 := hts (.fieldLink RX4 22 "LabelStationModel" "refusal" "I") (List.mem_of_getElem? (i := 1) rfl)
  have q2 := hts (.fieldLink RX4 128 "LabelStationModel" "length" "I") (List.mem_of_getElem? (i := 2) rfl)
  have q3 := hts (.fieldLink RX4 19 "LabelStationModel" "text" "[I") (List.mem_of_getElem? (i := 3) rfl)
  have q4 := hts (.fieldLink RX4 7 "LabelStationModel" "now" "[I") (List.mem_of_getElem? (i := 4) rfl)
  have q5 := hts (.fieldLink RX4 16 "LabelStationModel" "aside" "[I") (List.mem_of_getElem? (i := 5) rfl)
  generalize hR : fx4_carryOut M = R
  rw [fx4_carryOut] at hR
  rw [sx4_carryOut] at hF
  refine lv_aload_n hx hb dX4_carryOut_0 rfl (lv_at hl 0 rfl) ?_
  refine lv_iconst (v := 0) hx hb dX4_carryOut_1 (by decide) ?_
  refine va_put (D := D) (ci := 4) (v := .int 0) (ty := .int) (C := RX4) (T := TX4) (N := 8) hx hb hts hinX4 tyX4 tyX4_ok nmX4 hown hK hP hD hS 0 rfl rfl 4 (by decide) q1 (fun _ h9 => h9) rfl (by decide +kernel) rfl rfl (Nat.le_of_ble_eq_true rfl) dX4_carryOut_2 (fun H locs hP hD hS => ?_)
  have hP : va_P D vwCl (mdW cI am (sset M.1 4 1 0, M.2)) H := hP
  have hD : va_D A (mdW cI am (sset M.1 4 1 0, M.2)) := hD
  refine lv_iconst (v := 0) hx hb dX4_carryOut_5 (by decide) ?_
  refine lv_istore_n (lv' := [(1, .int 0), (0, .ref (am 0))]) hx hb dX4_carryOut_6 rfl hl (by decide) rfl (fun ls hl => ?_)
  have loop7 : ∀ (n7 : Nat) (y1 : Int32) (M : Md) (H : Heap) (locs : List Loc) (ls : Array Slot), fx4_carryOut_L7 n7 y1 M = R → sx4_carryOut_L7 n7 y1 M → va_P D vwCl (mdW cI am M) H → va_D A (mdW cI am M) → va_S A s.heap H locs → lv_has ls 3 [(1, .int y1), (0, .ref (am 0))] → W p l e (kRm 8 179) s m ([.ref (am 0)] : List Value).toArray below meth c H locs 0 0 (kQI D below R.1 (mdW cI am R.2) A ([.ref (am 0)] : List Value).toArray s) (F0 m 7 ls []) := by
    intro n7
    induction n7 with
    | zero => intro y1 M H locs ls hR hF; exact hF.elim
    | succ n7 ih7 =>
      intro y1 M H locs ls hR hF hP hD hS hl
      rw [fx4_carryOut_L7] at hR
      rw [sx4_carryOut_L7] at hF
      refine lv_iload_n hx hb dX4_carryOut_7 rfl (lv_at hl 0 rfl) ?_
      refine lv_aload_n hx hb dX4_carryOut_8 rfl (lv_at hl 1 rfl) ?_
      refine va_get (D := D) (ci := 4) (v := .int (M.1 4 2)) (C := RX4) (T := TX4) (N := 8) hx hb hts hinX4 hown hK hP 0 rfl rfl 6 (by decide) q2 (fun _ h9 => h9) rfl dX4_carryOut_9 ?_
      refine lv_icmp_ge (tgt := 64) hx hb dX4_carryOut_12 (by decide) (fun c8001 => ?_) (fun c8001 => ?_)
      · rw [if_pos c8001] at hR hF
        refine lv_aload_n hx hb dX4_carryOut_64 rfl (lv_at hl 1 rfl) ?_
        obtain ⟨hs8003, hF⟩ := hF
        refine kcV (ci := 4) (q0 := 0) (As := []) (rest := []) E.1 (cx4_laysAside E am M hs8003) hX (cwV 0 hts gX4_carryOut_X4_laysAside rfl rfl rfl hdX4_laysAside ⟨Nat.le_of_ble_eq_true rfl, Nat.le_of_ble_eq_true rfl⟩) hKs hK hP hD hS hA _ _ (kw_self _) (kw_self _).symm rfl rfl rfl rfl hl.1 (Nat.le_of_ble_eq_true rfl) dX4_carryOut_65 ⟨Nat.zero_le _, Nat.zero_le _⟩ (fun H locs hP hD hS => ?_)
        have hP : va_P D vwCl (mdW cI am (fx4_laysAside M)) H := hP
        have hD : va_D A (mdW cI am (fx4_laysAside M)) := hD
        generalize eM8002 : fx4_laysAside M = M8002 at hR hF hP hD
        replace hR := bnd_e hR
        replace hF := bnd_p hF
        refine lv_iconst (v := 0) hx hb dX4_carryOut_68 (by decide) ?_
        refine lv_istore_n (lv' := [(1, .int 0), (0, .ref (am 0))]) hx hb dX4_carryOut_69 rfl hl (by decide) rfl (fun ls hl => ?_)
        have loop70 : ∀ (n70 : Nat) (y1 : Int32) (M : Md) (H : Heap) (locs : List Loc) (ls : Array Slot), fx4_carryOut_L70 n70 y1 M = R → sx4_carryOut_L70 n70 y1 M → va_P D vwCl (mdW cI am M) H → va_D A (mdW cI am M) → va_S A s.heap H locs → lv_has ls 3 [(1, .int y1), (0, .ref (am 0))] → W p l e (kRm 8 179) s m ([.ref (am 0)] : List Value).toArray below meth c H locs 0 0 (kQI D below R.1 (mdW cI am R.2) A ([.ref (am 0)] : List Value).toArray s) (F0 m 70 ls []) := by
          intro n70
          induction n70 with
          | zero => intro y1 M H locs ls hR hF; exact hF.elim
          | succ n70 ih70 =>
            intro y1 M H locs ls hR hF hP hD hS hl
            rw [fx4_carryOut_L70] at hR
            rw [sx4_carryOut_L70] at hF
            refine lv_iload_n hx hb dX4_carryOut_70 rfl (lv_at hl 0 rfl) ?_
            refine lv_aload_n hx hb dX4_carryOut_71 rfl (lv_at hl 1 rfl) ?_
            refine va_get (D := D) (ci := 4) (v := .int (M.1 4 2)) (C := RX4) (T := TX4) (N := 8) hx hb hts hinX4 hown hK hP 0 rfl rfl 6 (by decide) q2 (fun _ h9 => h9) rfl dX4_carryOut_72 ?_
            refine lv_icmp_ge (tgt := 107) hx hb dX4_carryOut_75 (by decide) (fun c71001 => ?_) (fun c71001 => ?_)
            · rw [if_pos c71001] at hR hF
              refine lv_iconst (v := 0) hx hb dX4_carryOut_107 (by decide) ?_
              refine lv_istore_n (lv' := [(1, .int 0), (0, .ref (am 0))]) hx hb dX4_carryOut_108 rfl hl (by decide) rfl (fun ls hl => ?_)
              have loop109 : ∀ (n109 : Nat) (y1 : Int32) (M : Md) (H : Heap) (locs : List Loc) (ls : Array Slot), fx4_carryOut_L109 n109 y1 M = R → sx4_carryOut_L109 n109 y1 M → va_P D vwCl (mdW cI am M) H → va_D A (mdW cI am M) → va_S A s.heap H locs → lv_has ls 3 [(1, .int y1), (0, .ref (am 0))] → W p l e (kRm 8 179) s m ([.ref (am 0)] : List Value).toArray below meth c H locs 0 0 (kQI D below R.1 (mdW cI am R.2) A ([.ref (am 0)] : List Value).toArray s) (F0 m 109 ls []) := by
                intro n109
                induction n109 with
                | zero => intro y1 M H locs ls hR hF; exact hF.elim
                | succ n109 ih109 =>
                  intro y1 M H locs ls hR hF hP hD hS hl
                  rw [fx4_carryOut_L109] at hR
                  rw [sx4_carryOut_L109] at hF
                  refine lv_iload_n hx hb dX4_carryOut_109 rfl (lv_at hl 0 rfl) ?_
                  refine lv_sipush (v := 1203) hx hb dX4_carryOut_110 (by decide) ?_
                  refine lv_icmp_ge (tgt := 148) hx hb dX4_carryOut_113 (by decide) (fun c110001 => ?_) (fun c110001 => ?_)
                  · rw [if_pos c110001] at hR hF
                    refine lv_aload_n hx hb dX4_carryOut_148 rfl (lv_at hl 1 rfl) ?_
                    obtain ⟨hs110005, hF⟩ := hF
                    refine kcV (ci := 4) (q0 := 0) (As := []) (rest := []) E.1 (cx4_saves E am M hs110005) hX (cwV 0 hts gX4_carryOut_X4_saves rfl rfl rfl hdX4_saves ⟨Nat.le_of_ble_eq_true rfl, Nat.le_of_ble_eq_true rfl⟩) hKs hK hP hD hS hA _ _ (kw_self _) (kw_self _).symm rfl rfl rfl rfl hl.1 (Nat.le_of_ble_eq_true rfl) dX4_carryOut_149 ⟨Nat.zero_le _, Nat.zero_le _⟩ (fun H locs hP hD hS => ?_)
                    have hP : va_P D vwCl (mdW cI am (fx4_saves M)) H := hP
                    have hD : va_D A (mdW cI am (fx4_saves M)) := hD
                    generalize eM110002 : fx4_saves M = M110002 at hR hF hP hD
                    replace hR := bnd_e hR
                    replace hF := bnd_p hF
                    refine lv_aload_n hx hb dX4_carryOut_152 rfl (lv_at hl 1 rfl) ?_
                    have hs110004 := hF
                    refine kcV (ci := 4) (q0 := 0) (As := []) (rest := []) E.1 (cx4_takesBack E am M110002 hs110004) hX (cwV 0 hts gX4_carryOut_X4_takesBack rfl rfl rfl hdX4_takesBack ⟨Nat.le_of_ble_eq_true rfl, Nat.le_of_ble_eq_true rfl⟩) hKs hK hP hD hS hA _ _ (kw_self _) (kw_self _).symm rfl rfl rfl rfl hl.1 (Nat.le_of_ble_eq_true rfl) dX4_carryOut_153 ⟨Nat.zero_le _, Nat.zero_le _⟩ (fun H locs hP hD hS => ?_)
                    have hP : va_P D vwCl (mdW cI am (fx4_takesBack M110002)) H := hP
                    have hD : va_D A (mdW cI am (fx4_takesBack M110002)) := hD
                    generalize eM110003 : fx4_takesBack M110002 = M110003 at hR hP hD
                    replace hR := bnd_e hR
                    refine lv_aload_n hx hb dX4_carryOut_156 rfl (lv_at hl 1 rfl) ?_
                    refine va_get (D := D) (ci := 4) (v := .int (M110003.1 4 2)) (C := RX4) (T := TX4) (N := 8) hx hb hts hinX4 hown hK hP 0 rfl rfl 6 (by decide) q2 (fun _ h9 => h9) rfl dX4_carryOut_157 ?_
                    subst hR
                    exact krI hx hb hr hlk hP hD hS dX4_carryOut_160 rfl rfl
                  · rw [if_neg c110001] at hR hF
                    refine lv_aload_n hx hb dX4_carryOut_116 rfl (lv_at hl 1 rfl) ?_
                    refine va_get (D := D) (ci := 4) (v := .ref (am 1)) (C := RX4) (T := TX4) (N := 8) hx hb hts hinX4 hown hK hP 0 rfl rfl 0 (by decide) q4 (fun _ h9 => h9) rfl dX4_carryOut_117 ?_
                    refine lv_iload_n hx hb dX4_carryOut_120 rfl (lv_at hl 0 rfl) ?_
                    obtain ⟨hi110006, hF⟩ := hF
                    refine va_iald hx hb hK hP 1 0 rfl rfl hi110006 dX4_carryOut_121 ?_
                    refine lv_istore_n (lv' := [(2, .int ((M.1 0) (y1).toNatClampNeg)), (1, .int y1), (0, .ref (am 0))]) hx hb dX4_carryOut_122 rfl hl (by decide) rfl (fun ls hl => ?_)
                    refine lv_aload_n hx hb dX4_carryOut_123 rfl (lv_at hl 2 rfl) ?_
                    refine va_get (D := D) (ci := 4) (v := .ref (am 1)) (C := RX4) (T := TX4) (N := 8) hx hb hts hinX4 hown hK hP 0 rfl rfl 0 (by decide) q4 (fun _ h9 => h9) rfl dX4_carryOut_124 ?_
                    refine lv_iload_n hx hb dX4_carryOut_127 rfl (lv_at hl 1 rfl) ?_
                    refine lv_aload_n hx hb dX4_carryOut_128 rfl (lv_at hl 2 rfl) ?_
                    refine va_get (D := D) (ci := 4) (v := .ref (am 3)) (C := RX4) (T := TX4) (N := 8) hx hb hts hinX4 hown hK hP 0 rfl rfl 2 (by decide) q5 (fun _ h9 => h9) rfl dX4_carryOut_129 ?_
                    refine lv_iload_n hx hb dX4_carryOut_132 rfl (lv_at hl 1 rfl) ?_
                    obtain ⟨hi110007, hF⟩ := hF
                    refine va_iald hx hb hK hP 3 0 rfl rfl hi110007 dX4_carryOut_133 ?_
                    obtain ⟨hi110008, hF⟩ := hF
                    refine va_iast hx hb hK hP hD hS 1 0 rfl rfl hi110008 dX4_carryOut_134 (fun H locs hP hD hS => ?_)
                    have hP : va_P D vwCl (mdW cI am (va_up M.1 0 (upd (M.1 0) (y1).toNatClampNeg ((M.1 2) (y1).toNatClampNeg)), M.2)) H := hP
                    have hD : va_D A (mdW cI am (va_up M.1 0 (upd (M.1 0) (y1).toNatClampNeg ((M.1 2) (y1).toNatClampNeg)), M.2)) := hD
                    generalize eg110009 : upd (M.1 0) (y1).toNatClampNeg ((M.1 2) (y1).toNatClampNeg) = g110009 at hR hP hD hF
                    replace hR := bnd_e hR
                    replace hF := bnd_p hF
                    refine lv_aload_n hx hb dX4_carryOut_135 rfl (lv_at hl 2 rfl) ?_
                    refine va_get (D := D) (ci := 4) (v := .ref (am 3)) (C := RX4) (T := TX4) (N := 8) hx hb hts hinX4 hown hK hP 0 rfl rfl 2 (by decide) q5 (fun _ h9 => h9) rfl dX4_carryOut_136 ?_
                    refine lv_iload_n hx hb dX4_carryOut_139 rfl (lv_at hl 1 rfl) ?_
                    refine lv_iload_n hx hb dX4_carryOut_140 rfl (lv_at hl 0 rfl) ?_
                    obtain ⟨hi110010, hF⟩ := hF
                    refine va_iast hx hb hK hP hD hS 3 0 rfl rfl hi110010 dX4_carryOut_141 (fun H locs hP hD hS => ?_)
                    have hP : va_P D vwCl (mdW cI am (va_up (va_up M.1 0 g110009) 2 (upd (M.1 2) (y1).toNatClampNeg ((M.1 0) (y1).toNatClampNeg)), M.2)) H := hP
                    have hD : va_D A (mdW cI am (va_up (va_up M.1 0 g110009) 2 (upd (M.1 2) (y1).toNatClampNeg ((M.1 0) (y1).toNatClampNeg)), M.2)) := hD
                    generalize eg110011 : upd (M.1 2) (y1).toNatClampNeg ((M.1 0) (y1).toNatClampNeg) = g110011 at hR hP hD hF
                    replace hR := bnd_e hR
                    replace hF := bnd_p hF
                    refine lv_iinc (v := y1 + 1) (lv' := [(1, .int (y1 + 1)), (2, .int ((M.1 0) (y1).toNatClampNeg)), (0, .ref (am 0))]) hx hb dX4_carryOut_142 hl (k := 1) rfl rfl (by decide) rfl (fun ls hl => ?_)
                    refine lv_goto (tgt := 109) hx hb dX4_carryOut_145 (by decide) ?_
                    exact ih109 (y1 + 1) (va_up (va_up M.1 0 g110009) 2 g110011, M.2) _ _ ls hR hF hP hD hS (lv_sub hl [0, 2] rfl)
              exact loop109 kfu 0 M _ _ ls hR hF hP hD hS (lv_sub hl [0, 1] rfl)
            · rw [if_neg c71001] at hR hF
              refine lv_aload_n hx hb dX4_carryOut_78 rfl (lv_at hl 1 rfl) ?_
              refine lv_aload_n hx hb dX4_carryOut_79 rfl (lv_at hl 1 rfl) ?_
              refine va_get (D := D) (ci := 4) (v := .ref (am 4)) (C := RX4) (T := TX4) (N := 8) hx hb hts hinX4 hown hK hP 0 rfl rfl 5 (by decide) q3 (fun _ h9 => h9) rfl dX4_carryOut_80 ?_
              refine lv_iload_n hx hb dX4_carryOut_83 rfl (lv_at hl 0 rfl) ?_
              obtain ⟨hi71002, hF⟩ := hF
              refine va_iald hx hb hK hP 4 0 rfl rfl hi71002 dX4_carryOut_84 ?_
              obtain ⟨hs71007, hF⟩ := hF
              refine kcI (ci := 4) (q0 := 0) (As := [.int ((M.1 3) (y1).toNatClampNeg)]) (rest := []) E.1 (cx4_does E am (M.1 4 0) (M.1 4 1) (M.1 4 2) M.2 (M.1 0) ((M.1 3) (y1).toNatClampNeg) hs71007) hX (cwV 1 hts gX4_carryOut_X4_does rfl rfl rfl hdX4_does ⟨Nat.le_of_ble_eq_true rfl, Nat.le_of_ble_eq_true rfl⟩) hKs hK hP hD hS hA _ _ (md_mn cI am M) (md_mn' cI am M _) rfl rfl rfl rfl hl.1 (Nat.le_of_ble_eq_true rfl) dX4_carryOut_85 ⟨Nat.zero_le _, Nat.zero_le _⟩ (fun H locs hP hD hS => ?_)
              have hP : va_P D vwCl (mdW cI am (va_up M.1 0 ((fx4_does (M.1 0) ((M.1 3) (y1).toNatClampNeg)).2), M.2)) H := hP
              have hD : va_D A (mdW cI am (va_up M.1 0 ((fx4_does (M.1 0) ((M.1 3) (y1).toNatClampNeg)).2), M.2)) := hD
              generalize eu71003 : fx4_does (M.1 0) ((M.1 3) (y1).toNatClampNeg) = u71003 at hR hF hP hD ⊢
              replace hR := bnd_e hR
              replace hF := bnd_p hF
              refine lv_if_ne (tgt := 101) hx hb dX4_carryOut_88 (by decide) (fun c71004 => ?_) (fun c71004 => ?_)
              · rw [if_neg c71004] at hR hF
                refine lv_iinc (v := y1 + 1) (lv' := [(1, .int (y1 + 1)), (0, .ref (am 0))]) hx hb dX4_carryOut_101 hl (k := 0) rfl rfl (by decide) rfl (fun ls hl => ?_)
                refine lv_goto (tgt := 70) hx hb dX4_carryOut_104 (by decide) ?_
                exact ih70 (y1 + 1) (va_up M.1 0 u71003.2, M.2) _ _ ls hR hF hP hD hS (lv_sub hl [0, 1] rfl)
              · rw [if_pos c71004] at hR hF
                refine lv_aload_n hx hb dX4_carryOut_91 rfl (lv_at hl 1 rfl) ?_
                have hs71006 := hF
                refine kcV (ci := 4) (q0 := 0) (As := []) (rest := []) E.1 (cx4_takesBack E am (va_up M.1 0 u71003.2, M.2) hs71006) hX (cwV 0 hts gX4_carryOut_X4_takesBack rfl rfl rfl hdX4_takesBack ⟨Nat.le_of_ble_eq_true rfl, Nat.le_of_ble_eq_true rfl⟩) hKs hK hP hD hS hA _ _ (kw_self _) (kw_self _).symm rfl rfl rfl rfl hl.1 (Nat.le_of_ble_eq_true rfl) dX4_carryOut_92 ⟨Nat.zero_le _, Nat.zero_le _⟩ (fun H locs hP hD hS => ?_)
                have hP : va_P D vwCl (mdW cI am (fx4_takesBack (va_up M.1 0 u71003.2, M.2))) H := hP
                have hD : va_D A (mdW cI am (fx4_takesBack (va_up M.1 0 u71003.2, M.2))) := hD
                generalize eM71005 : fx4_takesBack (va_up M.1 0 u71003.2, M.2) = M71005 at hR hP hD
                replace hR := bnd_e hR
                refine lv_sipush (v := (-1000)) hx hb dX4_carryOut_95 (by decide) ?_
                refine lv_iload_n hx hb dX4_carryOut_98 rfl (lv_at hl 0 rfl) ?_
                refine lv_isub hx hb dX4_carryOut_99 ?_
                subst hR
                exact krI hx hb hr hlk hP hD hS dX4_carryOut_100 rfl rfl
        exact loop70 kfu 0 M8002 _ _ ls hR hF hP hD hS (lv_sub hl [0, 1] rfl)
      · rw [if_neg c8001] at hR hF
        refine lv_aload_n hx hb dX4_carryOut_15 rfl (lv_at hl 1 rfl) ?_
        refine va_get (D := D) (ci := 4) (v := .ref (am 4)) (C := RX4) (T := TX4) (N := 8) hx hb hts hinX4 hown hK hP 0 rfl rfl 5 (by decide) q3 (fun _ h9 => h9) rfl dX4_carryOut_16 ?_
        refine lv_iload_n hx hb dX4_carryOut_19 rfl (lv_at hl 0 rfl) ?_
        obtain ⟨hi8004, hF⟩ := hF
        refine va_iald hx hb hK hP 4 0 rfl rfl hi8004 dX4_carryOut_20 ?_
        refine lv_bipush (v := 48) hx hb dX4_carryOut_21 (by decide) ?_
        refine lv_bipush (v := 51) hx hb dX4_carryOut_23 (by decide) ?_
        refine kcsI (As := [.int ((M.1 3) (y1).toNatClampNeg), .int 48, .int 51]) (rest := []) E.1 (cx4_within E ((M.1 3) (y1).toNatClampNeg) 48 51) hX (va_cwS 3 hts gX4_carryOut_X4_within rfl rfl rfl hdX4_within.2 ⟨Nat.le_of_ble_eq_true rfl, Nat.le_of_ble_eq_true rfl⟩) hKs hP hD hS hA _ _ (kw_nil _) (kw_nil _).symm rfl rfl hl.1 (Nat.le_of_ble_eq_true rfl) dX4_carryOut_25 ⟨Nat.zero_le _, Nat.zero_le _⟩ (fun H locs hP hD hS => ?_)
        refine lv_if_ne (tgt := 58) hx hb dX4_carryOut_28 (by decide) (fun c8005 => ?_) (fun c8005 => ?_)
        · rw [if_neg c8005] at hR hF
          refine lv_iinc (v := y1 + 1) (lv' := [(1, .int (y1 + 1)), (0, .ref (am 0))]) hx hb dX4_carryOut_58 hl (k := 0) rfl rfl (by decide) rfl (fun ls hl => ?_)
          refine lv_goto (tgt := 7) hx hb dX4_carryOut_61 (by decide) ?_
          exact ih7 (y1 + 1) M _ _ ls hR hF hP hD hS (lv_sub hl [0, 1] rfl)
        · rw [if_pos c8005] at hR hF
          refine lv_aload_n hx hb dX4_carryOut_31 rfl (lv_at hl 1 rfl) ?_
          refine va_get (D := D) (ci := 4) (v := .ref (am 4)) (C := RX4) (T := TX4) (N := 8) hx hb hts hinX4 hown hK hP 0 rfl rfl 5 (by decide) q3 (fun _ h9 => h9) rfl dX4_carryOut_32 ?_
          refine lv_iload_n hx hb dX4_carryOut_35 rfl (lv_at hl 0 rfl) ?_
          obtain ⟨hi8006, hF⟩ := hF
          refine va_iald hx hb hK hP 4 0 rfl rfl hi8006 dX4_carryOut_36 ?_
          refine lv_bipush (v := 46) hx hb dX4_carryOut_37 (by decide) ?_
          refine lv_icmp_eq (tgt := 58) hx hb dX4_carryOut_39 (by decide) (fun c8007 => ?_) (fun c8007 => ?_)
          · rw [if_pos c8007] at hR hF
            refine lv_iinc (v := y1 + 1) (lv' := [(1, .int (y1 + 1)), (0, .ref (am 0))]) hx hb dX4_carryOut_58 hl (k := 0) rfl rfl (by decide) rfl (fun ls hl => ?_)
            refine lv_goto (tgt := 7) hx hb dX4_carryOut_61 (by decide) ?_
            exact ih7 (y1 + 1) M _ _ ls hR hF hP hD hS (lv_sub hl [0, 1] rfl)
          · rw [if_neg c8007] at hR hF
            refine lv_aload_n hx hb dX4_carryOut_42 rfl (lv_at hl 1 rfl) ?_
            refine va_get (D := D) (ci := 4) (v := .ref (am 4)) (C := RX4) (T := TX4) (N := 8) hx hb hts hinX4 hown hK hP 0 rfl rfl 5 (by decide) q3 (fun _ h9 => h9) rfl dX4_carryOut_43 ?_
            refine lv_iload_n hx hb dX4_carryOut_46 rfl (lv_at hl 0 rfl) ?_
            obtain ⟨hi8008, hF⟩ := hF
            refine va_iald hx hb hK hP 4 0 rfl rfl hi8008 dX4_carryOut_47 ?_
            refine lv_bipush (v := 58) hx hb dX4_carryOut_48 (by decide) ?_
            refine lv_icmp_eq (tgt := 58) hx hb dX4_carryOut_50 (by decide) (fun c8009 => ?_) (fun c8009 => ?_)
            · rw [if_pos c8009] at hR hF
              refine lv_iinc (v := y1 + 1) (lv' := [(1, .int (y1 + 1)), (0, .ref (am 0))]) hx hb dX4_carryOut_58 hl (k := 0) rfl rfl (by decide) rfl (fun ls hl => ?_)
              refine lv_goto (tgt := 7) hx hb dX4_carryOut_61 (by decide) ?_
              exact ih7 (y1 + 1) M _ _ ls hR hF hP hD hS (lv_sub hl [0, 1] rfl)
            · rw [if_neg c8009] at hR hF
              refine lv_bipush (v := (-10)) hx hb dX4_carryOut_53 (by decide) ?_
              refine lv_iload_n hx hb dX4_carryOut_55 rfl (lv_at hl 0 rfl) ?_
              refine lv_isub hx hb dX4_carryOut_56 ?_
              subst hR
              exact krI hx hb hr hlk hP hD hS dX4_carryOut_57 rfl rfl
  exact loop7 kfu 0 (sset M.1 4 1 0, M.2) _ _ ls hR hF hP hD hS (lv_sub hl [0, 1] rfl)

theorem hdX4_mix : yX4_mix.cls = RX4 ∧ yX4_mix.cls ≠ "java/lang/invoke/MethodHandle" ∧ yX4_mix.cls ≠ "java/lang/invoke/VarHandle" ∧ (parseMethodDescriptor yX4_mix.desc).map (fun d => d.parameters.length) = some 1 := by decide +kernel
def fx4_mix (M : Md) (x1 : Int32) : Md := (M.1, (31 * M.2) + ((x1).toInt64))
set_option maxHeartbeats 4000000 in
set_option maxRecDepth 100000 in
theorem cx4_mix {l : Launch} {D : va_G} {cI cB cS cJ : ClassId} {K : State → Prop} (E : kE D cI cB cS cJ K) (am : Nat → Nat) (M : Md) (x1 : Int32) : kV l D K yX4_mix wsX4_mix 0 0 [.ref (am 0), .int x1] (mdW cI am M)  (mdW cI am (fx4_mix M x1)) := by
  refine kV_of (own := RX4) (cc := cX4_mix) (maxL := 2) (tys := kty cI cB cS cJ) (fun U h => (E.2 U h).1) (by decide) rfl rfl (Nat.le_of_ble_eq_true rfl) ?_
  intro p e s m below meth c A ls hx hb hr hml hts hown hlk hKs hK hP hD hA hS hl
  have hl : lv_has ls 2 [(0, .ref (am 0)), (1, .int x1)] := hl
  have hX : CallFix p m c cX4_mix 2 s _ wsX4_mix RX4 := ⟨hx, hb, hml, hown, hts⟩
  have hinX4 : ∀ w ∈ wsX40, w ∈ wsX4_mix := fun w h => List.mem_cons_of_mem _ (List.mem_append_right _ h)
  have q1 := hts (.constantLong RX4 134 (31)) (List.mem_of_getElem? (i := 1) rfl)
  have q2 := hts (.fieldLink RX4 136 "LabelStationModel" "hash" "J") (List.mem_of_getElem? (i := 2) rfl)
  generalize hR : fx4_mix M x1 = R
  rw [fx4_mix] at hR
  refine lv_aload_n hx hb dX4_mix_0 rfl (lv_at hl 0 rfl) ?_
  refine lv_ldc2 (v := 31) hx hb hown q1 dX4_mix_1 ?_
  refine lv_aload_n hx hb dX4_mix_4 rfl (lv_at hl 0 rfl) ?_
  refine va_get (D := D) (ci := 4) (v := .long M.2) (C := RX4) (T := TX4) (N := 8) hx hb hts hinX4 hown hK hP 0 rfl rfl 7 (by decide) q2 (fun _ h9 => h9) rfl dX4_mix_5 ?_
  refine lv_lmul hx hb dX4_mix_8 ?_
  refine lv_iload_n hx hb dX4_mix_9 rfl (lv_at hl 1 rfl) ?_
  refine lv_i2l hx hb dX4_mix_10 rfl ?_
  refine lv_ladd hx hb dX4_mix_11 ?_
  refine va_put (D := D) (ci := 4) (v := .long ((31 * M.2) + ((x1).toInt64))) (ty := .long) (C := RX4) (T := TX4) (N := 8) hx hb hts hinX4 tyX4 tyX4_ok nmX4 hown hK hP hD hS 0 rfl rfl 7 (by decide) q2 (fun _ h9 => h9) rfl (by decide +kernel) rfl rfl (Nat.le_of_ble_eq_true rfl) dX4_mix_12 (fun H locs hP hD hS => ?_)
  have hP : va_P D vwCl (mdW cI am (M.1, (31 * M.2) + ((x1).toInt64))) H := hP
  have hD : va_D A (mdW cI am (M.1, (31 * M.2) + ((x1).toInt64))) := hD
  subst hR
  exact krV hx hb hr hlk hP hD hS dX4_mix_15 rfl

theorem hdX4_mixAll : yX4_mixAll.cls = RX4 ∧ yX4_mixAll.cls ≠ "java/lang/invoke/MethodHandle" ∧ yX4_mixAll.cls ≠ "java/lang/invoke/VarHandle" ∧ (parseMethodDescriptor yX4_mixAll.desc).map (fun d => d.parameters.length) = some 2 := by decide +kernel
def fx4_mixAll_L2 : Nat → Int32 → Int32 → Int32 → Md → Md
  | 0, _, _, _, M => M
  | n2 + 1, y1, y2, y3, M => (if (y1 + y2) ≤ y3 then M else (bnd (fx4_mix M ((M.1 0) (y3).toNatClampNeg)) (fun M3003 => fx4_mixAll_L2 n2 y1 y2 (y3 + 1) M3003)))
def sx4_mixAll_L2 : Nat → Int32 → Int32 → Int32 → Md → Prop
  | 0, _, _, _, _ => False
  | n2 + 1, y1, y2, y3, M => (if (y1 + y2) ≤ y3 then True else (vp_in (y3) 1203 ∧ (bnd (fx4_mix M ((M.1 0) (y3).toNatClampNeg)) (fun M3003 => sx4_mixAll_L2 n2 y1 y2 (y3 + 1) M3003))))
def fx4_mixAll (M : Md) (x1 : Int32) (x2 : Int32) : Md := fx4_mixAll_L2 kfu x1 x2 x1 M
def sx4_mixAll (M : Md) (x1 : Int32) (x2 : Int32) : Prop := sx4_mixAll_L2 kfu x1 x2 x1 M
set_option maxHeartbeats 4000000 in
set_option maxRecDepth 100000 in
theorem cx4_mixAll {l : Launch} {D : va_G} {cI cB cS cJ : ClassId} {K : State → Prop} (E : kE D cI cB cS cJ K) (am : Nat → Nat) (M : Md) (x1 : Int32) (x2 : Int32) (hF : sx4_mixAll M x1 x2) : kV l D K yX4_mixAll wsX4_mixAll 1 21 [.ref (am 0), .int x1, .int x2] (mdW cI am M)  (mdW cI am (fx4_mixAll M x1 x2)) := by
  refine kV_of (own := RX4) (cc := cX4_mixAll) (maxL := 4) (tys := kty cI cB cS cJ) (fun U h => (E.2 U h).1) (by decide) rfl rfl (Nat.le_of_ble_eq_true rfl) ?_
  intro p e s m below meth c A ls hx hb hr hml hts hown hlk hKs hK hP hD hA hS hl
  have hl : lv_has ls 4 [(0, .ref (am 0)), (1, .int x1), (2, .int x2)] := hl
  have hX : CallFix p m c cX4_mixAll 4 s _ wsX4_mixAll RX4 := ⟨hx, hb, hml, hown, hts⟩
  have hinX4 : ∀ w ∈ wsX40, w ∈ wsX4_mixAll := fun w h => List.mem_cons_of_mem _ (List.mem_append_right _ h)
  have q1 := hts (.fieldLink RX4 7 "LabelStationModel" "now" "[I") (List.mem_of_getElem? (i := 1) rfl)
  generalize hR : fx4_mixAll M x1 x2 = R
  rw [fx4_mixAll] at hR
  rw [sx4_mixAll] at hF
  refine lv_iload_n hx hb dX4_mixAll_0 rfl (lv_at hl 1 rfl) ?_
  refine lv_istore_n (lv' := [(3, .int x1), (0, .ref (am 0)), (1, .int x1), (2, .int x2)]) hx hb dX4_mixAll_1 rfl hl (by decide) rfl (fun ls hl => ?_)
  have loop2 : ∀ (n2 : Nat) (y1 : Int32) (y2 : Int32) (y3 : Int32) (M : Md) (H : Heap) (locs : List Loc) (ls : Array Slot), fx4_mixAll_L2 n2 y1 y2 y3 M = R → sx4_mixAll_L2 n2 y1 y2 y3 M → va_P D vwCl (mdW cI am M) H → va_D A (mdW cI am M) → va_S A s.heap H locs → lv_has ls 4 [(1, .int y1), (2, .int y2), (3, .int y3), (0, .ref (am 0))] → W p l e (kRm 1 21) s m ([.ref (am 0), .int x1, .int x2] : List Value).toArray below meth c H locs 0 0 (kQV D below (mdW cI am R) A ([.ref (am 0), .int x1, .int x2] : List Value).toArray s) (F0 m 2 ls []) := by
    intro n2
    induction n2 with
    | zero => intro y1 y2 y3 M H locs ls hR hF; exact hF.elim
    | succ n2 ih2 =>
      intro y1 y2 y3 M H locs ls hR hF hP hD hS hl
      rw [fx4_mixAll_L2] at hR
      rw [sx4_mixAll_L2] at hF
      refine lv_iload_n hx hb dX4_mixAll_2 rfl (lv_at hl 2 rfl) ?_
      refine lv_iload_n hx hb dX4_mixAll_3 rfl (lv_at hl 0 rfl) ?_
      refine lv_iload_n hx hb dX4_mixAll_4 rfl (lv_at hl 1 rfl) ?_
      refine lv_iadd hx hb dX4_mixAll_5 ?_
      refine lv_icmp_ge (tgt := 25) hx hb dX4_mixAll_6 (by decide) (fun c3001 => ?_) (fun c3001 => ?_)
      · rw [if_pos c3001] at hR hF
        subst hR
        exact krV hx hb hr hlk hP hD hS dX4_mixAll_25 rfl
      · rw [if_neg c3001] at hR hF
        refine lv_aload_n hx hb dX4_mixAll_9 rfl (lv_at hl 3 rfl) ?_
        refine lv_aload_n hx hb dX4_mixAll_10 rfl (lv_at hl 3 rfl) ?_
        refine va_get (D := D) (ci := 4) (v := .ref (am 1)) (C := RX4) (T := TX4) (N := 8) hx hb hts hinX4 hown hK hP 0 rfl rfl 0 (by decide) q1 (fun _ h9 => h9) rfl dX4_mixAll_11 ?_
        refine lv_iload_n hx hb dX4_mixAll_14 rfl (lv_at hl 2 rfl) ?_
        obtain ⟨hi3002, hF⟩ := hF
        refine va_iald hx hb hK hP 1 0 rfl rfl hi3002 dX4_mixAll_15 ?_
        refine kcV (ci := 4) (q0 := 0) (As := [.int ((M.1 0) (y3).toNatClampNeg)]) (rest := []) E.1 (cx4_mix E am M ((M.1 0) (y3).toNatClampNeg)) hX (cwV 1 hts gX4_mixAll_X4_mix rfl rfl rfl hdX4_mix ⟨Nat.le_of_ble_eq_true rfl, Nat.le_of_ble_eq_true rfl⟩) hKs hK hP hD hS hA _ _ (kw_self _) (kw_self _).symm rfl rfl rfl rfl hl.1 (Nat.le_of_ble_eq_true rfl) dX4_mixAll_16 ⟨Nat.zero_le _, Nat.zero_le _⟩ (fun H locs hP hD hS => ?_)
        have hP : va_P D vwCl (mdW cI am (fx4_mix M ((M.1 0) (y3).toNatClampNeg))) H := hP
        have hD : va_D A (mdW cI am (fx4_mix M ((M.1 0) (y3).toNatClampNeg))) := hD
        generalize eM3003 : fx4_mix M ((M.1 0) (y3).toNatClampNeg) = M3003 at hR hF hP hD
        replace hR := bnd_e hR
        replace hF := bnd_p hF
        refine lv_iinc (v := y3 + 1) (lv' := [(3, .int (y3 + 1)), (1, .int y1), (2, .int y2), (0, .ref (am 0))]) hx hb dX4_mixAll_19 hl (k := 2) rfl rfl (by decide) rfl (fun ls hl => ?_)
        refine lv_goto (tgt := 2) hx hb dX4_mixAll_22 (by decide) ?_
        exact ih2 y1 y2 (y3 + 1) M3003 _ _ ls hR hF hP hD hS (lv_sub hl [1, 2, 0, 3] rfl)
  exact loop2 kfu x1 x2 x1 M _ _ ls hR hF hP hD hS (lv_sub hl [2, 3, 0, 1] rfl)

theorem hdX4_digest : yX4_digest.cls = RX4 ∧ yX4_digest.cls ≠ "java/lang/invoke/MethodHandle" ∧ yX4_digest.cls ≠ "java/lang/invoke/VarHandle" ∧ (parseMethodDescriptor yX4_digest.desc).map (fun d => d.parameters.length) = some 0 := by decide +kernel
def fx4_digest_L40 : Nat → Int32 → Md → Int64 × (Md)
  | 0, _, M => (0, M)
  | n40 + 1, y1, M => (if 8 ≤ y1 then (bnd (fx4_mixAll M 17 18) (fun M41002 => (bnd (fx4_mixAll M41002 37 (4 * ((M41002.1 0) 36))) (fun M41003 => (bnd (fx4_mixAll M41003 118 (6 * ((M41003.1 0) 117))) (fun M41004 => (bnd (fx4_mix M41004 (M41004.1 4 0)) (fun M41005 => (M41005.2, M41005))))))))) else (bnd (fx4_tellStatus (M.1 0) y1) (fun v41009 => (bnd (fx4_mix M v41009) (fun M41010 => fx4_digest_L40 n40 (y1 + 1) M41010)))))
def sx4_digest_L40 : Nat → Int32 → Md → Prop
  | 0, _, _ => False
  | n40 + 1, y1, M => (if 8 ≤ y1 then (sx4_mixAll M 17 18 ∧ (bnd (fx4_mixAll M 17 18) (fun M41002 => (sx4_mixAll M41002 37 (4 * ((M41002.1 0) 36)) ∧ (bnd (fx4_mixAll M41002 37 (4 * ((M41002.1 0) 36))) (fun M41003 => sx4_mixAll M41003 118 (6 * ((M41003.1 0) 117)))))))) else (bnd (fx4_tellStatus (M.1 0) y1) (fun v41009 => (bnd (fx4_mix M v41009) (fun M41010 => sx4_digest_L40 n40 (y1 + 1) M41010)))))
def fx4_digest (M : Md) : Int64 × (Md) := (bnd (fx4_mix (sset M.1 4 1 0, 2939) (M.1 4 2)) (fun M1 => (bnd (fx4_mixAll M1 0 13) (fun M2 => (bnd (fx4_mix M2 ((M2.1 0) 13)) (fun M3 => fx4_digest_L40 kfu 0 M3))))))
def sx4_digest (M : Md) : Prop := (bnd (fx4_mix (sset M.1 4 1 0, 2939) (M.1 4 2)) (fun M1 => (sx4_mixAll M1 0 13 ∧ (bnd (fx4_mixAll M1 0 13) (fun M2 => (bnd (fx4_mix M2 ((M2.1 0) 13)) (fun M3 => sx4_digest_L40 kfu 0 M3)))))))
set_option maxHeartbeats 4000000 in
set_option maxRecDepth 100000 in
theorem cx4_digest {l : Launch} {D : va_G} {cI cB cS cJ : ClassId} {K : State → Prop} (E : kE D cI cB cS cJ K) (am : Nat → Nat) (M : Md) (hF : sx4_digest M) : kJ l D K yX4_digest wsX4_digest 2 44 [.ref (am 0)] (mdW cI am M) (fx4_digest M).1 (mdW cI am ((fx4_digest M).2)) := by
  refine kJ_of (own := RX4) (cc := cX4_digest) (maxL := 2) (tys := kty cI cB cS cJ) (fun U h => (E.2 U h).1) (by decide) rfl rfl (Nat.le_of_ble_eq_true rfl) ?_
  intro p e s m below meth c A ls hx hb hr hml hts hown hlk hKs hK hP hD hA hS hl
  have hl : lv_has ls 2 [(0, .ref (am 0))] := hl
  have hX : CallFix p m c cX4_digest 2 s _ wsX4_digest RX4 := ⟨hx, hb, hml, hown, hts⟩
  have hinX4 : ∀ w ∈ wsX40, w ∈ wsX4_digest := fun w h => List.mem_cons_of_mem _ (List.mem_append_right _ h)
  have q1 := hts (.fieldLink RX4 22 "LabelStationModel" "refusal" "I") (List.mem_of_getElem? (i := 1) rfl)
  have q2 := hts (.constantLong RX4 143 (2939)) (List.mem_of_getElem? (i := 2) rfl)
  have q3 := hts (.fieldLink RX4 136 "LabelStationModel" "hash" "J") (List.mem_of_getElem? (i := 3) rfl)
  have q4 := hts (.fieldLink RX4 128 "LabelStationModel" "length" "I") (List.mem_of_getElem? (i := 4) rfl)
  have q5 := hts (.fieldLink RX4 7 "LabelStationModel" "now" "[I") (List.mem_of_getElem? (i := 5) rfl)
  have q6 := hts (.fieldLink RX4 26 "LabelStationModel" "saved" "I") (List.mem_of_getElem? (i := 6) rfl)
  generalize hR : fx4_digest M = R
  rw [fx4_digest] at hR
  rw [sx4_digest] at hF
  refine lv_aload_n hx hb dX4_digest_0 rfl (lv_at hl 0 rfl) ?_
  refine lv_iconst (v := 0) hx hb dX4_digest_1 (by decide) ?_
  refine va_put (D := D) (ci := 4) (v := .int 0) (ty := .int) (C := RX4) (T := TX4) (N := 8) hx hb hts hinX4 tyX4 tyX4_ok nmX4 hown hK hP hD hS 0 rfl rfl 4 (by decide) q1 (fun _ h9 => h9) rfl (by decide +kernel) rfl rfl (Nat.le_of_ble_eq_true rfl) dX4_digest_2 (fun H locs hP hD hS => ?_)
  have hP : va_P D vwCl (mdW cI am (sset M.1 4 1 0, M.2)) H := hP
  have hD : va_D A (mdW cI am (sset M.1 4 1 0, M.2)) := hD
  refine lv_aload_n hx hb dX4_digest_5 rfl (lv_at hl 0 rfl) ?_
  refine lv_ldc2 (v := 2939) hx hb hown q2 dX4_digest_6 ?_
  refine va_put (D := D) (ci := 4) (v := .long 2939) (ty := .long) (C := RX4) (T := TX4) (N := 8) hx hb hts hinX4 tyX4 tyX4_ok nmX4 hown hK hP hD hS 0 rfl rfl 7 (by decide) q3 (fun _ h9 => h9) rfl (by decide +kernel) rfl rfl (Nat.le_of_ble_eq_true rfl) dX4_digest_9 (fun H locs hP hD hS => ?_)
  have hP : va_P D vwCl (mdW cI am (sset M.1 4 1 0, 2939)) H := hP
  have hD : va_D A (mdW cI am (sset M.1 4 1 0, 2939)) := hD
  refine lv_aload_n hx hb dX4_digest_12 rfl (lv_at hl 0 rfl) ?_
  refine lv_aload_n hx hb dX4_digest_13 rfl (lv_at hl 0 rfl) ?_
  refine va_get (D := D) (ci := 4) (v := .int (M.1 4 2)) (C := RX4) (T := TX4) (N := 8) hx hb hts hinX4 hown hK hP 0 rfl rfl 6 (by decide) q4 (fun _ h9 => h9) rfl dX4_digest_14 ?_
  refine kcV (ci := 4) (q0 := 0) (As := [.int (M.1 4 2)]) (rest := []) E.1 (cx4_mix E am (sset M.1 4 1 0, 2939) (M.1 4 2)) hX (cwV 1 hts gX4_digest_X4_mix rfl rfl rfl hdX4_mix ⟨Nat.le_of_ble_eq_true rfl, Nat.le_of_ble_eq_true rfl⟩) hKs hK hP hD hS hA _ _ (kw_self _) (kw_self _).symm rfl rfl rfl rfl hl.1 (Nat.le_of_ble_eq_true rfl) dX4_digest_17 ⟨Nat.zero_le _, Nat.zero_le _⟩ (fun H locs hP hD hS => ?_)
  have hP : va_P D vwCl (mdW cI am (fx4_mix (sset M.1 4 1 0, 2939) (M.1 4 2))) H := hP
  have hD : va_D A (mdW cI am (fx4_mix (sset M.1 4 1 0, 2939) (M.1 4 2))) := hD
  generalize eM1 : fx4_mix (sset M.1 4 1 0, 2939) (M.1 4 2) = M1 at hR hF hP hD
  replace hR := bnd_e hR
  replace hF := bnd_p hF
  refine lv_aload_n hx hb dX4_digest_20 rfl (lv_at hl 0 rfl) ?_
  refine lv_iconst (v := 0) hx hb dX4_digest_21 (by decide) ?_
  refine lv_bipush (v := 13) hx hb dX4_digest_22 (by decide) ?_
  obtain ⟨hs4, hF⟩ := hF
  refine kcV (ci := 4) (q0 := 0) (As := [.int 0, .int 13]) (rest := []) E.1 (cx4_mixAll E am M1 0 13 hs4) hX (cwV 2 hts gX4_digest_X4_mixAll rfl rfl rfl hdX4_mixAll ⟨Nat.le_of_ble_eq_true rfl, Nat.le_of_ble_eq_true rfl⟩) hKs hK hP hD hS hA _ _ (kw_self _) (kw_self _).symm rfl rfl rfl rfl hl.1 (Nat.le_of_ble_eq_true rfl) dX4_digest_24 ⟨Nat.zero_le _, Nat.zero_le _⟩ (fun H locs hP hD hS => ?_)
  have hP : va_P D vwCl (mdW cI am (fx4_mixAll M1 0 13)) H := hP
  have hD : va_D A (mdW cI am (fx4_mixAll M1 0 13)) := hD
  generalize eM2 : fx4_mixAll M1 0 13 = M2 at hR hF hP hD
  replace hR := bnd_e hR
  replace hF := bnd_p hF
  refine lv_aload_n hx hb dX4_digest_27 rfl (lv_at hl 0 rfl) ?_
  refine lv_aload_n hx hb dX4_digest_28 rfl (lv_at hl 0 rfl) ?_
  refine va_get (D := D) (ci := 4) (v := .ref (am 1)) (C := RX4) (T := TX4) (N := 8) hx hb hts hinX4 hown hK hP 0 rfl rfl 0 (by decide) q5 (fun _ h9 => h9) rfl dX4_digest_29 ?_
  refine lv_bipush (v := 13) hx hb dX4_digest_32 (by decide) ?_
  refine va_iald hx hb hK hP 1 0 rfl rfl (kin_lit (j := 13) (n := 1203) (by decide) (by decide)) dX4_digest_34 ?_
  refine kw_top (v := .int ((M2.1 0) 13)) rfl ?_
  refine kcV (ci := 4) (q0 := 0) (As := [.int ((M2.1 0) 13)]) (rest := []) E.1 (cx4_mix E am M2 ((M2.1 0) 13)) hX (cwV 1 hts gX4_digest_X4_mix rfl rfl rfl hdX4_mix ⟨Nat.le_of_ble_eq_true rfl, Nat.le_of_ble_eq_true rfl⟩) hKs hK hP hD hS hA _ _ (kw_self _) (kw_self _).symm rfl rfl rfl rfl hl.1 (Nat.le_of_ble_eq_true rfl) dX4_digest_35 ⟨Nat.zero_le _, Nat.zero_le _⟩ (fun H locs hP hD hS => ?_)
  have hP : va_P D vwCl (mdW cI am (fx4_mix M2 ((M2.1 0) 13))) H := hP
  have hD : va_D A (mdW cI am (fx4_mix M2 ((M2.1 0) 13))) := hD
  generalize eM3 : fx4_mix M2 ((M2.1 0) 13) = M3 at hR hF hP hD
  replace hR := bnd_e hR
  replace hF := bnd_p hF
  refine lv_iconst (v := 0) hx hb dX4_digest_38 (by decide) ?_
  refine lv_istore_n (lv' := [(1, .int 0), (0, .ref (am 0))]) hx hb dX4_digest_39 rfl hl (by decide) rfl (fun ls hl => ?_)
  have loop40 : ∀ (n40 : Nat) (y1 : Int32) (M : Md) (H : Heap) (locs : List Loc) (ls : Array Slot), fx4_digest_L40 n40 y1 M = R → sx4_digest_L40 n40 y1 M → va_P D vwCl (mdW cI am M) H → va_D A (mdW cI am M) → va_S A s.heap H locs → lv_has ls 2 [(1, .int y1), (0, .ref (am 0))] → W p l e (kRm 2 44) s m ([.ref (am 0)] : List Value).toArray below meth c H locs 0 0 (kQJ D below R.1 (mdW cI am R.2) A ([.ref (am 0)] : List Value).toArray s) (F0 m 40 ls []) := by
    intro n40
    induction n40 with
    | zero => intro y1 M H locs ls hR hF; exact hF.elim
    | succ n40 ih40 =>
      intro y1 M H locs ls hR hF hP hD hS hl
      rw [fx4_digest_L40] at hR
      rw [sx4_digest_L40] at hF
      refine lv_iload_n hx hb dX4_digest_40 rfl (lv_at hl 0 rfl) ?_
      refine lv_bipush (v := 8) hx hb dX4_digest_41 (by decide) ?_
      refine lv_icmp_ge (tgt := 61) hx hb dX4_digest_43 (by decide) (fun c41001 => ?_) (fun c41001 => ?_)
      · rw [if_pos c41001] at hR hF
        refine lv_aload_n hx hb dX4_digest_61 rfl (lv_at hl 1 rfl) ?_
        refine lv_bipush (v := 17) hx hb dX4_digest_62 (by decide) ?_
        refine lv_bipush (v := 18) hx hb dX4_digest_64 (by decide) ?_
        obtain ⟨hs41008, hF⟩ := hF
        refine kcV (ci := 4) (q0 := 0) (As := [.int 17, .int 18]) (rest := []) E.1 (cx4_mixAll E am M 17 18 hs41008) hX (cwV 2 hts gX4_digest_X4_mixAll rfl rfl rfl hdX4_mixAll ⟨Nat.le_of_ble_eq_true rfl, Nat.le_of_ble_eq_true rfl⟩) hKs hK hP hD hS hA _ _ (kw_self _) (kw_self _).symm rfl rfl rfl rfl hl.1 (Nat.le_of_ble_eq_true rfl) dX4_digest_66 ⟨Nat.zero_le _, Nat.zero_le _⟩ (fun H locs hP hD hS => ?_)
        have hP : va_P D vwCl (mdW cI am (fx4_mixAll M 17 18)) H := hP
        have hD : va_D A (mdW cI am (fx4_mixAll M 17 18)) := hD
        generalize eM41002 : fx4_mixAll M 17 18 = M41002 at hR hF hP hD
        replace hR := bnd_e hR
        replace hF := bnd_p hF
        refine lv_aload_n hx hb dX4_digest_69 rfl (lv_at hl 1 rfl) ?_
        refine lv_bipush (v := 37) hx hb dX4_digest_70 (by decide) ?_
        refine lv_iconst (v := 4) hx hb dX4_digest_72 (by decide) ?_
        refine lv_aload_n hx hb dX4_digest_73 rfl (lv_at hl 1 rfl) ?_
        refine va_get (D := D) (ci := 4) (v := .ref (am 1)) (C := RX4) (T := TX4) (N := 8) hx hb hts hinX4 hown hK hP 0 rfl rfl 0 (by decide) q5 (fun _ h9 => h9) rfl dX4_digest_74 ?_
        refine lv_bipush (v := 36) hx hb dX4_digest_77 (by decide) ?_
        refine va_iald hx hb hK hP 1 0 rfl rfl (kin_lit (j := 36) (n := 1203) (by decide) (by decide)) dX4_digest_79 ?_
        refine kw_top (v := .int ((M41002.1 0) 36)) rfl ?_
        refine lv_imul hx hb dX4_digest_80 ?_
        obtain ⟨hs41007, hF⟩ := hF
        refine kcV (ci := 4) (q0 := 0) (As := [.int 37, .int (4 * ((M41002.1 0) 36))]) (rest := []) E.1 (cx4_mixAll E am M41002 37 (4 * ((M41002.1 0) 36)) hs41007) hX (cwV 2 hts gX4_digest_X4_mixAll rfl rfl rfl hdX4_mixAll ⟨Nat.le_of_ble_eq_true rfl, Nat.le_of_ble_eq_true rfl⟩) hKs hK hP hD hS hA _ _ (kw_self _) (kw_self _).symm rfl rfl rfl rfl hl.1 (Nat.le_of_ble_eq_true rfl) dX4_digest_81 ⟨Nat.zero_le _, Nat.zero_le _⟩ (fun H locs hP hD hS => ?_)
        have hP : va_P D vwCl (mdW cI am (fx4_mixAll M41002 37 (4 * ((M41002.1 0) 36)))) H := hP
        have hD : va_D A (mdW cI am (fx4_mixAll M41002 37 (4 * ((M41002.1 0) 36)))) := hD
        generalize eM41003 : fx4_mixAll M41002 37 (4 * ((M41002.1 0) 36)) = M41003 at hR hF hP hD
        replace hR := bnd_e hR
        replace hF := bnd_p hF
        refine lv_aload_n hx hb dX4_digest_84 rfl (lv_at hl 1 rfl) ?_
        refine lv_bipush (v := 118) hx hb dX4_digest_85 (by decide) ?_
        refine lv_bipush (v := 6) hx hb dX4_digest_87 (by decide) ?_
        refine lv_aload_n hx hb dX4_digest_89 rfl (lv_at hl 1 rfl) ?_
        refine va_get (D := D) (ci := 4) (v := .ref (am 1)) (C := RX4) (T := TX4) (N := 8) hx hb hts hinX4 hown hK hP 0 rfl rfl 0 (by decide) q5 (fun _ h9 => h9) rfl dX4_digest_90 ?_
        refine lv_bipush (v := 117) hx hb dX4_digest_93 (by decide) ?_
        refine va_iald hx hb hK hP 1 0 rfl rfl (kin_lit (j := 117) (n := 1203) (by decide) (by decide)) dX4_digest_95 ?_
        refine kw_top (v := .int ((M41003.1 0) 117)) rfl ?_
        refine lv_imul hx hb dX4_digest_96 ?_
        have hs41006 := hF
        refine kcV (ci := 4) (q0 := 0) (As := [.int 118, .int (6 * ((M41003.1 0) 117))]) (rest := []) E.1 (cx4_mixAll E am M41003 118 (6 * ((M41003.1 0) 117)) hs41006) hX (cwV 2 hts gX4_digest_X4_mixAll rfl rfl rfl hdX4_mixAll ⟨Nat.le_of_ble_eq_true rfl, Nat.le_of_ble_eq_true rfl⟩) hKs hK hP hD hS hA _ _ (kw_self _) (kw_self _).symm rfl rfl rfl rfl hl.1 (Nat.le_of_ble_eq_true rfl) dX4_digest_97 ⟨Nat.zero_le _, Nat.zero_le _⟩ (fun H locs hP hD hS => ?_)
        have hP : va_P D vwCl (mdW cI am (fx4_mixAll M41003 118 (6 * ((M41003.1 0) 117)))) H := hP
        have hD : va_D A (mdW cI am (fx4_mixAll M41003 118 (6 * ((M41003.1 0) 117)))) := hD
        generalize eM41004 : fx4_mixAll M41003 118 (6 * ((M41003.1 0) 117)) = M41004 at hR hP hD
        replace hR := bnd_e hR
        refine lv_aload_n hx hb dX4_digest_100 rfl (lv_at hl 1 rfl) ?_
        refine lv_aload_n hx hb dX4_digest_101 rfl (lv_at hl 1 rfl) ?_
        refine va_get (D := D) (ci := 4) (v := .int (M41004.1 4 0)) (C := RX4) (T := TX4) (N := 8) hx hb hts hinX4 hown hK hP 0 rfl rfl 3 (by decide) q6 (fun _ h9 => h9) rfl dX4_digest_102 ?_
        refine kcV (ci := 4) (q0 := 0) (As := [.int (M41004.1 4 0)]) (rest := []) E.1 (cx4_mix E am M41004 (M41004.1 4 0)) hX (cwV 1 hts gX4_digest_X4_mix rfl rfl rfl hdX4_mix ⟨Nat.le_of_ble_eq_true rfl, Nat.le_of_ble_eq_true rfl⟩) hKs hK hP hD hS hA _ _ (kw_self _) (kw_self _).symm rfl rfl rfl rfl hl.1 (Nat.le_of_ble_eq_true rfl) dX4_digest_105 ⟨Nat.zero_le _, Nat.zero_le _⟩ (fun H locs hP hD hS => ?_)
        have hP : va_P D vwCl (mdW cI am (fx4_mix M41004 (M41004.1 4 0))) H := hP
        have hD : va_D A (mdW cI am (fx4_mix M41004 (M41004.1 4 0))) := hD
        generalize eM41005 : fx4_mix M41004 (M41004.1 4 0) = M41005 at hR hP hD
        replace hR := bnd_e hR
        refine lv_aload_n hx hb dX4_digest_108 rfl (lv_at hl 1 rfl) ?_
        refine va_get (D := D) (ci := 4) (v := .long M41005.2) (C := RX4) (T := TX4) (N := 8) hx hb hts hinX4 hown hK hP 0 rfl rfl 7 (by decide) q3 (fun _ h9 => h9) rfl dX4_digest_109 ?_
        subst hR
        exact krJ hx hb hr hlk hP hD hS dX4_digest_112 rfl rfl
      · rw [if_neg c41001] at hR hF
        refine lv_aload_n hx hb dX4_digest_46 rfl (lv_at hl 1 rfl) ?_
        refine lv_aload_n hx hb dX4_digest_47 rfl (lv_at hl 1 rfl) ?_
        refine lv_iload_n hx hb dX4_digest_48 rfl (lv_at hl 0 rfl) ?_
        refine kcI (ci := 4) (q0 := 0) (As := [.int y1]) (rest := [.ref (am 0)]) E.1 (cx4_tellStatus E am (M.1 4 0) (M.1 4 1) (M.1 4 2) M.2 (M.1 0) y1) hX (cwV 1 hts gX4_digest_X4_tellStatus rfl rfl rfl hdX4_tellStatus ⟨Nat.le_of_ble_eq_true rfl, Nat.le_of_ble_eq_true rfl⟩) hKs hK hP hD hS hA _ _ (md_mn cI am M) (md_mn cI am M).symm rfl rfl rfl rfl hl.1 (Nat.le_of_ble_eq_true rfl) dX4_digest_49 ⟨Nat.zero_le _, Nat.zero_le _⟩ (fun H locs hP hD hS => ?_)
        generalize ev41009 : fx4_tellStatus (M.1 0) y1 = v41009 at hR hF ⊢
        replace hR := bnd_e hR
        replace hF := bnd_p hF
        refine kcV (ci := 4) (q0 := 0) (As := [.int v41009]) (rest := []) E.1 (cx4_mix E am M v41009) hX (cwV 1 hts gX4_digest_X4_mix rfl rfl rfl hdX4_mix ⟨Nat.le_of_ble_eq_true rfl, Nat.le_of_ble_eq_true rfl⟩) hKs hK hP hD hS hA _ _ (kw_self _) (kw_self _).symm rfl rfl rfl rfl hl.1 (Nat.le_of_ble_eq_true rfl) dX4_digest_52 ⟨Nat.zero_le _, Nat.zero_le _⟩ (fun H locs hP hD hS => ?_)
        have hP : va_P D vwCl (mdW cI am (fx4_mix M v41009)) H := hP
        have hD : va_D A (mdW cI am (fx4_mix M v41009)) := hD
        generalize eM41010 : fx4_mix M v41009 = M41010 at hR hF hP hD
        replace hR := bnd_e hR
        replace hF := bnd_p hF
        refine lv_iinc (v := y1 + 1) (lv' := [(1, .int (y1 + 1)), (0, .ref (am 0))]) hx hb dX4_digest_55 hl (k := 0) rfl rfl (by decide) rfl (fun ls hl => ?_)
        refine lv_goto (tgt := 40) hx hb dX4_digest_58 (by decide) ?_
        exact ih40 (y1 + 1) M41010 _ _ ls hR hF hP hD hS (lv_sub hl [0, 1] rfl)
  exact loop40 kfu 0 M3 _ _ ls hR hF hP hD hS (lv_sub hl [0, 1] rfl)

theorem hdX4_undo : yX4_undo.cls = RX4 ∧ yX4_undo.cls ≠ "java/lang/invoke/MethodHandle" ∧ yX4_undo.cls ≠ "java/lang/invoke/VarHandle" ∧ (parseMethodDescriptor yX4_undo.desc).map (fun d => d.parameters.length) = some 0 := by decide +kernel
def fx4_undo_L33 : Nat → Int32 → Md → Int32 × (Md)
  | 0, _, M => (0, M)
  | n33 + 1, y1, M => (if 1203 ≤ y1 then (M.1 4 0, M) else (bnd (upd (M.1 0) (y1).toNatClampNeg ((M.1 1) ((1203 * (M.1 4 0)) + y1).toNatClampNeg)) (fun g34004 => fx4_undo_L33 n33 (y1 + 1) (va_up M.1 0 g34004, M.2))))
def sx4_undo_L33 : Nat → Int32 → Md → Prop
  | 0, _, _ => False
  | n33 + 1, y1, M => (if 1203 ≤ y1 then True else (vp_in ((1203 * (M.1 4 0)) + y1) 4812 ∧ (vp_in (y1) 1203 ∧ (bnd (upd (M.1 0) (y1).toNatClampNeg ((M.1 1) ((1203 * (M.1 4 0)) + y1).toNatClampNeg)) (fun g34004 => sx4_undo_L33 n33 (y1 + 1) (va_up M.1 0 g34004, M.2))))))
def fx4_undo (M : Md) : Int32 × (Md) := (if (M.1 4 0) = 0 then (bnd (fx4_refused M 1) (fun u2 => (if u2.1 = 0 then fx4_undo_L33 kfu 0 (sset u2.2.1 4 0 ((u2.2.1 4 0) - 1), u2.2.2) else (0, u2.2)))) else (bnd (fx4_refused M 0) (fun u4 => (if u4.1 = 0 then fx4_undo_L33 kfu 0 (sset u4.2.1 4 0 ((u4.2.1 4 0) - 1), u4.2.2) else (0, u4.2)))))
def sx4_undo (M : Md) : Prop := (if (M.1 4 0) = 0 then (bnd (fx4_refused M 1) (fun u2 => (if u2.1 = 0 then sx4_undo_L33 kfu 0 (sset u2.2.1 4 0 ((u2.2.1 4 0) - 1), u2.2.2) else True))) else (bnd (fx4_refused M 0) (fun u4 => (if u4.1 = 0 then sx4_undo_L33 kfu 0 (sset u4.2.1 4 0 ((u4.2.1 4 0) - 1), u4.2.2) else True))))
set_option maxHeartbeats 4000000 in
set_option maxRecDepth 100000 in
theorem cx4_undo {l : Launch} {D : va_G} {cI cB cS cJ : ClassId} {K : State → Prop} (E : kE D cI cB cS cJ K) (am : Nat → Nat) (M : Md) (hF : sx4_undo M) : kI l D K yX4_undo wsX4_undo 1 21 [.ref (am 0)] (mdW cI am M) (fx4_undo M).1 (mdW cI am ((fx4_undo M).2)) := by
  refine kI_of (own := RX4) (cc := cX4_undo) (maxL := 2) (tys := kty cI cB cS cJ) (fun U h => (E.2 U h).1) (by decide) rfl rfl (Nat.le_of_ble_eq_true rfl) ?_
  intro p e s m below meth c A ls hx hb hr hml hts hown hlk hKs hK hP hD hA hS hl
  have hl : lv_has ls 2 [(0, .ref (am 0))] := hl
  have hX : CallFix p m c cX4_undo 2 s _ wsX4_undo RX4 := ⟨hx, hb, hml, hown, hts⟩
  have hinX4 : ∀ w ∈ wsX40, w ∈ wsX4_undo := fun w h => List.mem_cons_of_mem _ (List.mem_append_right _ h)
  have q1 := hts (.fieldLink RX4 26 "LabelStationModel" "saved" "I") (List.mem_of_getElem? (i := 1) rfl)
  have q2 := hts (.fieldLink RX4 7 "LabelStationModel" "now" "[I") (List.mem_of_getElem? (i := 2) rfl)
  have q3 := hts (.fieldLink RX4 13 "LabelStationModel" "past" "[I") (List.mem_of_getElem? (i := 3) rfl)
  generalize hR : fx4_undo M = R
  rw [fx4_undo] at hR
  rw [sx4_undo] at hF
  refine lv_aload_n hx hb dX4_undo_0 rfl (lv_at hl 0 rfl) ?_
  refine lv_aload_n hx hb dX4_undo_1 rfl (lv_at hl 0 rfl) ?_
  refine va_get (D := D) (ci := 4) (v := .int (M.1 4 0)) (C := RX4) (T := TX4) (N := 8) hx hb hts hinX4 hown hK hP 0 rfl rfl 3 (by decide) q1 (fun _ h9 => h9) rfl dX4_undo_2 ?_
  refine lv_if_ne (tgt := 12) hx hb dX4_undo_5 (by decide) (fun c1 => ?_) (fun c1 => ?_)
  · rw [if_neg c1] at hR hF
    refine lv_iconst (v := 0) hx hb dX4_undo_12 (by decide) ?_
    refine kcI (ci := 4) (q0 := 0) (As := [.int 0]) (rest := []) E.1 (cx4_refused E am M 0) hX (cwV 1 hts gX4_undo_X4_refused rfl rfl rfl hdX4_refused ⟨Nat.le_of_ble_eq_true rfl, Nat.le_of_ble_eq_true rfl⟩) hKs hK hP hD hS hA _ _ (kw_self _) (kw_self _).symm rfl rfl rfl rfl hl.1 (Nat.le_of_ble_eq_true rfl) dX4_undo_13 ⟨Nat.zero_le _, Nat.zero_le _⟩ (fun H locs hP hD hS => ?_)
    have hP : va_P D vwCl (mdW cI am ((fx4_refused M 0).2)) H := hP
    have hD : va_D A (mdW cI am ((fx4_refused M 0).2)) := hD
    generalize eu4 : fx4_refused M 0 = u4 at hR hF hP hD ⊢
    replace hR := bnd_e hR
    replace hF := bnd_p hF
    refine lv_if_eq (tgt := 21) hx hb dX4_undo_16 (by decide) (fun c5 => ?_) (fun c5 => ?_)
    · rw [if_pos c5] at hR hF
      refine lv_aload_n hx hb dX4_undo_21 rfl (lv_at hl 0 rfl) ?_
      refine lv_dup hx hb dX4_undo_22 rfl ?_
      refine va_get (D := D) (ci := 4) (v := .int (u4.2.1 4 0)) (C := RX4) (T := TX4) (N := 8) hx hb hts hinX4 hown hK hP 0 rfl rfl 3 (by decide) q1 (fun _ h9 => h9) rfl dX4_undo_23 ?_
      refine lv_iconst (v := 1) hx hb dX4_undo_26 (by decide) ?_
      refine lv_isub hx hb dX4_undo_27 ?_
      refine va_put (D := D) (ci := 4) (v := .int ((u4.2.1 4 0) - 1)) (ty := .int) (C := RX4) (T := TX4) (N := 8) hx hb hts hinX4 tyX4 tyX4_ok nmX4 hown hK hP hD hS 0 rfl rfl 3 (by decide) q1 (fun _ h9 => h9) rfl (by decide +kernel) rfl rfl (Nat.le_of_ble_eq_true rfl) dX4_undo_28 (fun H locs hP hD hS => ?_)
      have hP : va_P D vwCl (mdW cI am (sset u4.2.1 4 0 ((u4.2.1 4 0) - 1), u4.2.2)) H := hP
      have hD : va_D A (mdW cI am (sset u4.2.1 4 0 ((u4.2.1 4 0) - 1), u4.2.2)) := hD
      refine lv_iconst (v := 0) hx hb dX4_undo_31 (by decide) ?_
      refine lv_istore_n (lv' := [(1, .int 0), (0, .ref (am 0))]) hx hb dX4_undo_32 rfl hl (by decide) rfl (fun ls hl => ?_)
      have loop33 : ∀ (n33 : Nat) (y1 : Int32) (M : Md) (H : Heap) (locs : List Loc) (ls : Array Slot), fx4_undo_L33 n33 y1 M = R → sx4_undo_L33 n33 y1 M → va_P D vwCl (mdW cI am M) H → va_D A (mdW cI am M) → va_S A s.heap H locs → lv_has ls 2 [(1, .int y1), (0, .ref (am 0))] → W p l e (kRm 1 21) s m ([.ref (am 0)] : List Value).toArray below meth c H locs 0 0 (kQI D below R.1 (mdW cI am R.2) A ([.ref (am 0)] : List Value).toArray s) (F0 m 33 ls []) := by
        intro n33
        induction n33 with
        | zero => intro y1 M H locs ls hR hF; exact hF.elim
        | succ n33 ih33 =>
          intro y1 M H locs ls hR hF hP hD hS hl
          rw [fx4_undo_L33] at hR
          rw [sx4_undo_L33] at hF
          refine lv_iload_n hx hb dX4_undo_33 rfl (lv_at hl 0 rfl) ?_
          refine lv_sipush (v := 1203) hx hb dX4_undo_34 (by decide) ?_
          refine lv_icmp_ge (tgt := 67) hx hb dX4_undo_37 (by decide) (fun c34001 => ?_) (fun c34001 => ?_)
          · rw [if_pos c34001] at hR hF
            refine lv_aload_n hx hb dX4_undo_67 rfl (lv_at hl 1 rfl) ?_
            refine va_get (D := D) (ci := 4) (v := .int (M.1 4 0)) (C := RX4) (T := TX4) (N := 8) hx hb hts hinX4 hown hK hP 0 rfl rfl 3 (by decide) q1 (fun _ h9 => h9) rfl dX4_undo_68 ?_
            subst hR
            exact krI hx hb hr hlk hP hD hS dX4_undo_71 rfl rfl
          · rw [if_neg c34001] at hR hF
            refine lv_aload_n hx hb dX4_undo_40 rfl (lv_at hl 1 rfl) ?_
            refine va_get (D := D) (ci := 4) (v := .ref (am 1)) (C := RX4) (T := TX4) (N := 8) hx hb hts hinX4 hown hK hP 0 rfl rfl 0 (by decide) q2 (fun _ h9 => h9) rfl dX4_undo_41 ?_
            refine lv_iload_n hx hb dX4_undo_44 rfl (lv_at hl 0 rfl) ?_
            refine lv_aload_n hx hb dX4_undo_45 rfl (lv_at hl 1 rfl) ?_
            refine va_get (D := D) (ci := 4) (v := .ref (am 2)) (C := RX4) (T := TX4) (N := 8) hx hb hts hinX4 hown hK hP 0 rfl rfl 1 (by decide) q3 (fun _ h9 => h9) rfl dX4_undo_46 ?_
            refine lv_sipush (v := 1203) hx hb dX4_undo_49 (by decide) ?_
            refine lv_aload_n hx hb dX4_undo_52 rfl (lv_at hl 1 rfl) ?_
            refine va_get (D := D) (ci := 4) (v := .int (M.1 4 0)) (C := RX4) (T := TX4) (N := 8) hx hb hts hinX4 hown hK hP 0 rfl rfl 3 (by decide) q1 (fun _ h9 => h9) rfl dX4_undo_53 ?_
            refine lv_imul hx hb dX4_undo_56 ?_
            refine lv_iload_n hx hb dX4_undo_57 rfl (lv_at hl 0 rfl) ?_
            refine lv_iadd hx hb dX4_undo_58 ?_
            obtain ⟨hi34002, hF⟩ := hF
            refine va_iald hx hb hK hP 2 0 rfl rfl hi34002 dX4_undo_59 ?_
            obtain ⟨hi34003, hF⟩ := hF
            refine va_iast hx hb hK hP hD hS 1 0 rfl rfl hi34003 dX4_undo_60 (fun H locs hP hD hS => ?_)
            have hP : va_P D vwCl (mdW cI am (va_up M.1 0 (upd (M.1 0) (y1).toNatClampNeg ((M.1 1) ((1203 * (M.1 4 0)) + y1).toNatClampNeg)), M.2)) H := hP
            have hD : va_D A (mdW cI am (va_up M.1 0 (upd (M.1 0) (y1).toNatClampNeg ((M.1 1) ((1203 * (M.1 4 0)) + y1).toNatClampNeg)), M.2)) := hD
            generalize eg34004 : upd (M.1 0) (y1).toNatClampNeg ((M.1 1) ((1203 * (M.1 4 0)) + y1).toNatClampNeg) = g34004 at hR hP hD hF
            replace hR := bnd_e hR
            replace hF := bnd_p hF
            refine lv_iinc (v := y1 + 1) (lv' := [(1, .int (y1 + 1)), (0, .ref (am 0))]) hx hb dX4_undo_61 hl (k := 0) rfl rfl (by decide) rfl (fun ls hl => ?_)
            refine lv_goto (tgt := 33) hx hb dX4_undo_64 (by decide) ?_
            exact ih33 (y1 + 1) (va_up M.1 0 g34004, M.2) _ _ ls hR hF hP hD hS (lv_sub hl [0, 1] rfl)
      exact loop33 kfu 0 (sset u4.2.1 4 0 ((u4.2.1 4 0) - 1), u4.2.2) _ _ ls hR hF hP hD hS (lv_sub hl [0, 1] rfl)
    · rw [if_neg c5] at hR hF
      refine lv_iconst (v := 0) hx hb dX4_undo_19 (by decide) ?_
      subst hR
      exact krI hx hb hr hlk hP hD hS dX4_undo_20 rfl rfl
  · rw [if_pos c1] at hR hF
    refine lv_iconst (v := 1) hx hb dX4_undo_8 (by decide) ?_
    refine lv_goto (tgt := 13) hx hb dX4_undo_9 (by decide) ?_
    refine kcI (ci := 4) (q0 := 0) (As := [.int 1]) (rest := []) E.1 (cx4_refused E am M 1) hX (cwV 1 hts gX4_undo_X4_refused rfl rfl rfl hdX4_refused ⟨Nat.le_of_ble_eq_true rfl, Nat.le_of_ble_eq_true rfl⟩) hKs hK hP hD hS hA _ _ (kw_self _) (kw_self _).symm rfl rfl rfl rfl hl.1 (Nat.le_of_ble_eq_true rfl) dX4_undo_13 ⟨Nat.zero_le _, Nat.zero_le _⟩ (fun H locs hP hD hS => ?_)
    have hP : va_P D vwCl (mdW cI am ((fx4_refused M 1).2)) H := hP
    have hD : va_D A (mdW cI am ((fx4_refused M 1).2)) := hD
    generalize eu2 : fx4_refused M 1 = u2 at hR hF hP hD ⊢
    replace hR := bnd_e hR
    replace hF := bnd_p hF
    refine lv_if_eq (tgt := 21) hx hb dX4_undo_16 (by decide) (fun c3 => ?_) (fun c3 => ?_)
    · rw [if_pos c3] at hR hF
      refine lv_aload_n hx hb dX4_undo_21 rfl (lv_at hl 0 rfl) ?_
      refine lv_dup hx hb dX4_undo_22 rfl ?_
      refine va_get (D := D) (ci := 4) (v := .int (u2.2.1 4 0)) (C := RX4) (T := TX4) (N := 8) hx hb hts hinX4 hown hK hP 0 rfl rfl 3 (by decide) q1 (fun _ h9 => h9) rfl dX4_undo_23 ?_
      refine lv_iconst (v := 1) hx hb dX4_undo_26 (by decide) ?_
      refine lv_isub hx hb dX4_undo_27 ?_
      refine va_put (D := D) (ci := 4) (v := .int ((u2.2.1 4 0) - 1)) (ty := .int) (C := RX4) (T := TX4) (N := 8) hx hb hts hinX4 tyX4 tyX4_ok nmX4 hown hK hP hD hS 0 rfl rfl 3 (by decide) q1 (fun _ h9 => h9) rfl (by decide +kernel) rfl rfl (Nat.le_of_ble_eq_true rfl) dX4_undo_28 (fun H locs hP hD hS => ?_)
      have hP : va_P D vwCl (mdW cI am (sset u2.2.1 4 0 ((u2.2.1 4 0) - 1), u2.2.2)) H := hP
      have hD : va_D A (mdW cI am (sset u2.2.1 4 0 ((u2.2.1 4 0) - 1), u2.2.2)) := hD
      refine lv_iconst (v := 0) hx hb dX4_undo_31 (by decide) ?_
      refine lv_istore_n (lv' := [(1, .int 0), (0, .ref (am 0))]) hx hb dX4_undo_32 rfl hl (by decide) rfl (fun ls hl => ?_)
      have loop33 : ∀ (n33 : Nat) (y1 : Int32) (M : Md) (H : Heap) (locs : List Loc) (ls : Array Slot), fx4_undo_L33 n33 y1 M = R → sx4_undo_L33 n33 y1 M → va_P D vwCl (mdW cI am M) H → va_D A (mdW cI am M) → va_S A s.heap H locs → lv_has ls 2 [(1, .int y1), (0, .ref (am 0))] → W p l e (kRm 1 21) s m ([.ref (am 0)] : List Value).toArray below meth c H locs 0 0 (kQI D below R.1 (mdW cI am R.2) A ([.ref (am 0)] : List Value).toArray s) (F0 m 33 ls []) := by
        intro n33
        induction n33 with
        | zero => intro y1 M H locs ls hR hF; exact hF.elim
        | succ n33 ih33 =>
          intro y1 M H locs ls hR hF hP hD hS hl
          rw [fx4_undo_L33] at hR
          rw [sx4_undo_L33] at hF
          refine lv_iload_n hx hb dX4_undo_33 rfl (lv_at hl 0 rfl) ?_
          refine lv_sipush (v := 1203) hx hb dX4_undo_34 (by decide) ?_
          refine lv_icmp_ge (tgt := 67) hx hb dX4_undo_37 (by decide) (fun c34001 => ?_) (fun c34001 => ?_)
          · rw [if_pos c34001] at hR hF
            refine lv_aload_n hx hb dX4_undo_67 rfl (lv_at hl 1 rfl) ?_
            refine va_get (D := D) (ci := 4) (v := .int (M.1 4 0)) (C := RX4) (T := TX4) (N := 8) hx hb hts hinX4 hown hK hP 0 rfl rfl 3 (by decide) q1 (fun _ h9 => h9) rfl dX4_undo_68 ?_
            subst hR
            exact krI hx hb hr hlk hP hD hS dX4_undo_71 rfl rfl
          · rw [if_neg c34001] at hR hF
            refine lv_aload_n hx hb dX4_undo_40 rfl (lv_at hl 1 rfl) ?_
            refine va_get (D := D) (ci := 4) (v := .ref (am 1)) (C := RX4) (T := TX4) (N := 8) hx hb hts hinX4 hown hK hP 0 rfl rfl 0 (by decide) q2 (fun _ h9 => h9) rfl dX4_undo_41 ?_
            refine lv_iload_n hx hb dX4_undo_44 rfl (lv_at hl 0 rfl) ?_
            refine lv_aload_n hx hb dX4_undo_45 rfl (lv_at hl 1 rfl) ?_
            refine va_get (D := D) (ci := 4) (v := .ref (am 2)) (C := RX4) (T := TX4) (N := 8) hx hb hts hinX4 hown hK hP 0 rfl rfl 1 (by decide) q3 (fun _ h9 => h9) rfl dX4_undo_46 ?_
            refine lv_sipush (v := 1203) hx hb dX4_undo_49 (by decide) ?_
            refine lv_aload_n hx hb dX4_undo_52 rfl (lv_at hl 1 rfl) ?_
            refine va_get (D := D) (ci := 4) (v := .int (M.1 4 0)) (C := RX4) (T := TX4) (N := 8) hx hb hts hinX4 hown hK hP 0 rfl rfl 3 (by decide) q1 (fun _ h9 => h9) rfl dX4_undo_53 ?_
            refine lv_imul hx hb dX4_undo_56 ?_
            refine lv_iload_n hx hb dX4_undo_57 rfl (lv_at hl 0 rfl) ?_
            refine lv_iadd hx hb dX4_undo_58 ?_
            obtain ⟨hi34002, hF⟩ := hF
            refine va_iald hx hb hK hP 2 0 rfl rfl hi34002 dX4_undo_59 ?_
            obtain ⟨hi34003, hF⟩ := hF
            refine va_iast hx hb hK hP hD hS 1 0 rfl rfl hi34003 dX4_undo_60 (fun H locs hP hD hS => ?_)
            have hP : va_P D vwCl (mdW cI am (va_up M.1 0 (upd (M.1 0) (y1).toNatClampNeg ((M.1 1) ((1203 * (M.1 4 0)) + y1).toNatClampNeg)), M.2)) H := hP
            have hD : va_D A (mdW cI am (va_up M.1 0 (upd (M.1 0) (y1).toNatClampNeg ((M.1 1) ((1203 * (M.1 4 0)) + y1).toNatClampNeg)), M.2)) := hD
            generalize eg34004 : upd (M.1 0) (y1).toNatClampNeg ((M.1 1) ((1203 * (M.1 4 0)) + y1).toNatClampNeg) = g34004 at hR hP hD hF
            replace hR := bnd_e hR
            replace hF := bnd_p hF
            refine lv_iinc (v := y1 + 1) (lv' := [(1, .int (y1 + 1)), (0, .ref (am 0))]) hx hb dX4_undo_61 hl (k := 0) rfl rfl (by decide) rfl (fun ls hl => ?_)
            refine lv_goto (tgt := 33) hx hb dX4_undo_64 (by decide) ?_
            exact ih33 (y1 + 1) (va_up M.1 0 g34004, M.2) _ _ ls hR hF hP hD hS (lv_sub hl [0, 1] rfl)
      exact loop33 kfu 0 (sset u2.2.1 4 0 ((u2.2.1 4 0) - 1), u2.2.2) _ _ ls hR hF hP hD hS (lv_sub hl [0, 1] rfl)
    · rw [if_neg c3] at hR hF
      refine lv_iconst (v := 0) hx hb dX4_undo_19 (by decide) ?_
      subst hR
      exact krI hx hb hr hlk hP hD hS dX4_undo_20 rfl rfl

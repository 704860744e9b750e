/-! the model, whole: printed by my own program (gen.py) out of the listing -/
theorem hdX4_digest : yX4_digest.cls = RX4 ∧ yX4_digest.cls ≠ "java/lang/invoke/MethodHandle" ∧ yX4_digest.cls ≠ "java/lang/invoke/VarHandle" ∧ (parseMethodDescriptor yX4_digest.desc).map (fun d => d.parameters.length) = some 0 := by decide +kernel
def fx4_digest_L40 : Nat → Int32 → Md → Int64 × (Md)
  | 0, _, M => (0, M)
  | n40 + 1, y1, M => (if 8 ≤ y1 then (bnd (fx4_mixAll M 17 18) (fun M41002 => (bnd (fx4_mixAll M41002 37 (4 * ((M41002.1 0) 36))) (fun M41003 => (bnd (fx4_mixAll M41003 118 (6 * ((M41003.1 0) 117))) (fun M41004 => (bnd (fx4_mix M41004 (M41004.1 4 0)) (fun M41005 => (M41005.2, M41005))))))))) else (bnd (fx4_tellStatus (M.1 0) y1) (fun v41009 => (bnd (fx4_mix M v41009) (fun M41010 => fx4_digest_L40 n40 (y1 + 1) M41010)))))
def sx4_digest_L40 : Nat → Int32 → Md → Prop
  | 0, _, _ => False
  | n40 + 1, y1, M => (if 8 ≤ y1 then (sx4_mixAll M 17 18 ∧ (bnd (fx4_mixAll M 17 18) (fun M41002 => (sx4_mixAll M41002 37 (4 * ((M41002.1 0) 36)) ∧ (bnd (fx4_mixAll M41002 37 (4 * ((M41002.1 0) 36))) (fun M41003 => sx4_mixAll M41003 118 (6 * ((M41003.1 0) 117)))))))) else (bnd (fx4_tellStatus (M.1 0) y1) (fun v41009 => (bnd (fx4_mix M v41009) (fun M41010 => sx4_digest_L40 n40 (y1 + 1) M41010)))))
def fx4_digest (M : Md) : Int64 × (Md) := (bnd (fx4_mix (sset M.1 4 1 0, 2939) (M.1 4 2)) (fun M1 => (bnd (fx4_mixAll M1 0 13) (fun M2 => (bnd (fx4_mix M2 ((M2.1 0) 13)) (fun M3 => fx4_digest_L40 kfu 0 M3))))))
def sx4_digest (M : Md) : Prop := (bnd (fx4_mix (sset M.1 4 1 0, 2939) (M.1 4 2)) (fun M1 => (sx4_mixAll M1 0 13 ∧ (bnd (fx4_mixAll M1 0 13) (fun M2 => (bnd (fx4_mix M2 ((M2.1 0) 13)) (fun M3 => sx4_digest_L40 kfu 0 M3)))))))
set_option maxHeartbeats 4000000 in
set_option maxRecDepth 100000 in
theorem cx4_digest {l : Launch} {D : va_G} {cI cB cS cJ : ClassId} {K : State → Prop} (E : kE D cI cB cS cJ K) (am : Nat → Nat) (M : Md) (hF : sx4_digest M) : kJ l D K yX4_digest wsX4_digest 2 44 [.ref (am 0)] (mdW cI am M) (fx4_digest M).1 (mdW cI am ((fx4_digest M).2)) := by
  refine kJ_of (own := RX4) (cc := cX4_digest) (maxL := 2) (tys := kty cI cB cS cJ) (fun U h => (E.2 U h).1) (by decide) rfl rfl (Nat.le_of_ble_eq_true rfl) ?_
  intro p e s m below meth c A ls hx hb hr hml hts hown hlk hKs hK hP hD hA hS hl
  have hl : lv_has ls 2 [(0, .ref (am 0))] := hl
  have hX : CallFix p m c cX4_digest 2 s _ wsX4_digest RX4 := ⟨hx, hb, hml, hown, hts⟩
  have hinX4 : ∀ w ∈ wsX40, w ∈ wsX4_digest := fun w h => List.mem_cons_of_mem _ (List.mem_append_right _ h)
  have q1 := hts (.fieldLink RX4 22 "LabelStationModel" "refusal" "I") (List.mem_of_getElem? (i := 1) rfl)
  have q2 := hts (.constantLong RX4 143 (2939)) (List.mem_of_getElem? (i := 2) rfl)
  have q3 := hts (.fieldLink RX4 136 "LabelStationModel" "hash" "J") (List.mem_of_getElem? (i := 3) rfl)
  have q4 := hts (.fieldLink RX4 128 "LabelStationModel" "length" "I") (List.mem_of_getElem? (i := 4) rfl)
  have q5 := hts (.fieldLink RX4 7 "LabelStationModel" "now" "[I") (List.mem_of_getElem? (i := 5) rfl)
  have q6 := hts (.fieldLink RX4 26 "LabelStationModel" "saved" "I") (List.mem_of_getElem? (i := 6) rfl)
  generalize hR : fx4_digest M = R
  rw [fx4_digest] at hR
  rw [sx4_digest] at hF
  refine lv_aload_n hx hb dX4_digest_0 rfl (lv_at hl 0 rfl) ?_
  refine lv_iconst (v := 0) hx hb dX4_digest_1 (by decide) ?_
  refine va_put (D := D) (ci := 4) (v := .int 0) (ty := .int) (C := RX4) (T := TX4) (N := 8) hx hb hts hinX4 tyX4 tyX4_ok nmX4 hown hK hP hD hS 0 rfl rfl 4 (by decide) q1 (fun _ h9 => h9) rfl (by decide +kernel) rfl rfl (Nat.le_of_ble_eq_true rfl) dX4_digest_2 (fun H locs hP hD hS => ?_)
  have hP : va_P D vwCl (mdW cI am (sset M.1 4 1 0, M.2)) H := hP
  have hD : va_D A (mdW cI am (sset M.1 4 1 0, M.2)) := hD
  refine lv_aload_n hx hb dX4_digest_5 rfl (lv_at hl 0 rfl) ?_
  refine lv_ldc2 (v := 2939) hx hb hown q2 dX4_digest_6 ?_
  refine va_put (D := D) (ci := 4) (v := .long 2939) (ty := .long) (C := RX4) (T := TX4) (N := 8) hx hb hts hinX4 tyX4 tyX4_ok nmX4 hown hK hP hD hS 0 rfl rfl 7 (by decide) q3 (fun _ h9 => h9) rfl (by decide +kernel) rfl rfl (Nat.le_of_ble_eq_true rfl) dX4_digest_9 (fun H locs hP hD hS => ?_)
  have hP : va_P D vwCl (mdW cI am (sset M.1 4 1 0, 2939)) H := hP
  have hD : va_D A (mdW cI am (sset M.1 4 1 0, 2939)) := hD
  refine lv_aload_n hx hb dX4_digest_12 rfl (lv_at hl 0 rfl) ?_
  refine lv_aload_n hx hb dX4_digest_13 rfl (lv_at hl 0 rfl) ?_
  refine va_get (D := D) (ci := 4) (v := .int (M.1 4 2)) (C := RX4) (T := TX4) (N := 8) hx hb hts hinX4 hown hK hP 0 rfl rfl 6 (by decide) q4 (fun _ h9 => h9) rfl dX4_digest_14 ?_
  refine kcV (ci := 4) (q0 := 0) (As := [.int (M.1 4 2)]) (rest := []) E.1 (cx4_mix E am (sset M.1 4 1 0, 2939) (M.1 4 2)) hX (cwV 1 hts gX4_digest_X4_mix rfl rfl rfl hdX4_mix ⟨Nat.le_of_ble_eq_true rfl, Nat.le_of_ble_eq_true rfl⟩) hKs hK hP hD hS hA _ _ (kw_self _) (kw_self _).symm rfl rfl rfl rfl hl.1 (Nat.le_of_ble_eq_true rfl) dX4_digest_17 ⟨Nat.zero_le _, Nat.zero_le _⟩ (fun H locs hP hD hS => ?_)
  have hP : va_P D vwCl (mdW cI am (fx4_mix (sset M.1 4 1 0, 2939) (M.1 4 2))) H := hP
  have hD : va_D A (mdW cI am (fx4_mix (sset M.1 4 1 0, 2939) (M.1 4 2))) := hD
  generalize eM1 : fx4_mix (sset M.1 4 1 0, 2939) (M.1 4 2) = M1 at hR hF hP hD
  replace hR := bnd_e hR
  replace hF := bnd_p hF
  refine lv_aload_n hx hb dX4_digest_20 rfl (lv_at hl 0 rfl) ?_
  refine lv_iconst (v := 0) hx hb dX4_digest_21 (by decide) ?_
  refine lv_bipush (v := 13) hx hb dX4_digest_22 (by decide) ?_
  obtain ⟨hs4, hF⟩ := hF
  refine kcV (ci := 4) (q0 := 0) (As := [.int 0, .int 13]) (rest := []) E.1 (cx4_mixAll E am M1 0 13 hs4) hX (cwV 2 hts gX4_digest_X4_mixAll rfl rfl rfl hdX4_mixAll ⟨Nat.le_of_ble_eq_true rfl, Nat.le_of_ble_eq_true rfl⟩) hKs hK hP hD hS hA _ _ (kw_self _) (kw_self _).symm rfl rfl rfl rfl hl.1 (Nat.le_of_ble_eq_true rfl) dX4_digest_24 ⟨Nat.zero_le _, Nat.zero_le _⟩ (fun H locs hP hD hS => ?_)
  have hP : va_P D vwCl (mdW cI am (fx4_mixAll M1 0 13)) H := hP
  have hD : va_D A (mdW cI am (fx4_mixAll M1 0 13)) := hD
  generalize eM2 : fx4_mixAll M1 0 13 = M2 at hR hF hP hD
  replace hR := bnd_e hR
  replace hF := bnd_p hF
  refine lv_aload_n hx hb dX4_digest_27 rfl (lv_at hl 0 rfl) ?_
  refine lv_aload_n hx hb dX4_digest_28 rfl (lv_at hl 0 rfl) ?_
  refine va_get (D := D) (ci := 4) (v := .ref (am 1)) (C := RX4) (T := TX4) (N := 8) hx hb hts hinX4 hown hK hP 0 rfl rfl 0 (by decide) q5 (fun _ h9 => h9) rfl dX4_digest_29 ?_
  refine lv_bipush (v := 13) hx hb dX4_digest_32 (by decide) ?_
  refine va_iald hx hb hK hP 1 0 rfl rfl (kin_lit (j := 13) (n := 1203) (by decide) (by decide)) dX4_digest_34 ?_
  refine kw_top (v := .int ((M2.1 0) 13)) rfl ?_
  refine kcV (ci := 4) (q0 := 0) (As := [.int ((M2.1 0) 13)]) (rest := []) E.1 (cx4_mix E am M2 ((M2.1 0) 13)) hX (cwV 1 hts gX4_digest_X4_mix rfl rfl rfl hdX4_mix ⟨Nat.le_of_ble_eq_true rfl, Nat.le_of_ble_eq_true rfl⟩) hKs hK hP hD hS hA _ _ (kw_self _) (kw_self _).symm rfl rfl rfl rfl hl.1 (Nat.le_of_ble_eq_true rfl) dX4_digest_35 ⟨Nat.zero_le _, Nat.zero_le _⟩ (fun H locs hP hD hS => ?_)
  have hP : va_P D vwCl (mdW cI am (fx4_mix M2 ((M2.1 0) 13))) H := hP
  have hD : va_D A (mdW cI am (fx4_mix M2 ((M2.1 0) 13))) := hD
  generalize eM3 : fx4_mix M2 ((M2.1 0) 13) = M3 at hR hF hP hD
  replace hR := bnd_e hR
  replace hF := bnd_p hF
  refine lv_iconst (v := 0) hx hb dX4_digest_38 (by decide) ?_
  refine lv_istore_n (lv' := [(1, .int 0), (0, .ref (am 0))]) hx hb dX4_digest_39 rfl hl (by decide) rfl (fun ls hl => ?_)
  have loop40 : ∀ (n40 : Nat) (y1 : Int32) (M : Md) (H : Heap) (locs : List Loc) (ls : Array Slot), fx4_digest_L40 n40 y1 M = R → sx4_digest_L40 n40 y1 M → va_P D vwCl (mdW cI am M) H → va_D A (mdW cI am M) → va_S A s.heap H locs → lv_has ls 2 [(1, .int y1), (0, .ref (am 0))] → W p l e (kRm 2 44) s m ([.ref (am 0)] : List Value).toArray below meth c H locs 0 0 (kQJ D below R.1 (mdW cI am R.2) A ([.ref (am 0)] : List Value).toArray s) (F0 m 40 ls []) := by
    intro n40
    induction n40 with
    | zero => intro y1 M H locs ls hR hF; exact hF.elim
    | succ n40 ih40 =>
      intro y1 M H locs ls hR hF hP hD hS hl
      rw [fx4_digest_L40] at hR
      rw [sx4_digest_L40] at hF
      refine lv_iload_n hx hb dX4_digest_40 rfl (lv_at hl 0 rfl) ?_
      refine lv_bipush (v := 8) hx hb dX4_digest_41 (by decide) ?_
      refine lv_icmp_ge (tgt := 61) hx hb dX4_digest_43 (by decide) (fun c41001 => ?_) (fun c41001 => ?_)
      · rw [if_pos c41001] at hR hF
        refine lv_aload_n hx hb dX4_digest_61 rfl (lv_at hl 1 rfl) ?_
        refine lv_bipush (v := 17) hx hb dX4_digest_62 (by decide) ?_
        refine lv_bipush (v := 18) hx hb dX4_digest_64 (by decide) ?_
        obtain ⟨hs41008, hF⟩ := hF
        refine kcV (ci := 4) (q0 := 0) (As := [.int 17, .int 18]) (rest := []) E.1 (cx4_mixAll E am M 17 18 hs41008) hX (cwV 2 hts gX4_digest_X4_mixAll rfl rfl rfl hdX4_mixAll ⟨Nat.le_of_ble_eq_true rfl, Nat.le_of_ble_eq_true rfl⟩) hKs hK hP hD hS hA _ _ (kw_self _) (kw_self _).symm rfl rfl rfl rfl hl.1 (Nat.le_of_ble_eq_true rfl) dX4_digest_66 ⟨Nat.zero_le _, Nat.zero_le _⟩ (fun H locs hP hD hS => ?_)
        have hP : va_P D vwCl (mdW cI am (fx4_mixAll M 17 18)) H := hP
        have hD : va_D A (mdW cI am (fx4_mixAll M 17 18)) := hD
        generalize eM41002 : fx4_mixAll M 17 18 = M41002 at hR hF hP hD
        replace hR := bnd_e hR
        replace hF := bnd_p hF
        refine lv_aload_n hx hb dX4_digest_69 rfl (lv_at hl 1 rfl) ?_
        refine lv_bipush (v := 37) hx hb dX4_digest_70 (by decide) ?_
        refine lv_iconst (v := 4) hx hb dX4_digest_72 (by decide) ?_
        refine lv_aload_n hx hb dX4_digest_73 rfl (lv_at hl 1 rfl) ?_
        refine va_get (D := D) (ci := 4) (v := .ref (am 1)) (C := RX4) (T := TX4) (N := 8) hx hb hts hinX4 hown hK hP 0 rfl rfl 0 (by decide) q5 (fun _ h9 => h9) rfl dX4_digest_74 ?_
        refine lv_bipush (v := 36) hx hb dX4_digest_77 (by decide) ?_
        refine va_iald hx hb hK hP 1 0 rfl rfl (kin_lit (j := 36) (n := 1203) (by decide) (by decide)) dX4_digest_79 ?_
        refine kw_top (v := .int ((M41002.1 0) 36)) rfl ?_
        refine lv_imul hx hb dX4_digest_80 ?_
        obtain ⟨hs41007, hF⟩ := hF
        refine kcV (ci := 4) (q0 := 0) (As := [.int 37, .int (4 * ((M41002.1 0) 36))]) (rest := []) E.1 (cx4_mixAll E am M41002 37 (4 * ((M41002.1 0) 36)) hs41007) hX (cwV 2 hts gX4_digest_X4_mixAll rfl rfl rfl hdX4_mixAll ⟨Nat.le_of_ble_eq_true rfl, Nat.le_of_ble_eq_true rfl⟩) hKs hK hP hD hS hA _ _ (kw_self _) (kw_self _).symm rfl rfl rfl rfl hl.1 (Nat.le_of_ble_eq_true rfl) dX4_digest_81 ⟨Nat.zero_le _, Nat.zero_le _⟩ (fun H locs hP hD hS => ?_)
        have hP : va_P D vwCl (mdW cI am (fx4_mixAll M41002 37 (4 * ((M41002.1 0) 36)))) H := hP
        have hD : va_D A (mdW cI am (fx4_mixAll M41002 37 (4 * ((M41002.1 0) 36)))) := hD
        generalize eM41003 : fx4_mixAll M41002 37 (4 * ((M41002.1 0) 36)) = M41003 at hR hF hP hD
        replace hR := bnd_e hR
        replace hF := bnd_p hF
        refine lv_aload_n hx hb dX4_digest_84 rfl (lv_at hl 1 rfl) ?_
        refine lv_bipush (v := 118) hx hb dX4_digest_85 (by decide) ?_
        refine lv_bipush (v := 6) hx hb dX4_digest_87 (by decide) ?_
        refine lv_aload_n hx hb dX4_digest_89 rfl (lv_at hl 1 rfl) ?_
        refine va_get (D := D) (ci := 4) (v := .ref (am 1)) (C := RX4) (T := TX4) (N := 8) hx hb hts hinX4 hown hK hP 0 rfl rfl 0 (by decide) q5 (fun _ h9 => h9) rfl dX4_digest_90 ?_
        refine lv_bipush (v := 117) hx hb dX4_digest_93 (by decide) ?_
        refine va_iald hx hb hK hP 1 0 rfl rfl (kin_lit (j := 117) (n := 1203) (by decide) (by decide)) dX4_digest_95 ?_
        refine kw_top (v := .int ((M41003.1 0) 117)) rfl ?_
        refine lv_imul hx hb dX4_digest_96 ?_
        have hs41006 := hF
        refine kcV (ci := 4) (q0 := 0) (As := [.int 118, .int (6 * ((M41003.1 0) 117))]) (rest := []) E.1 (cx4_mixAll E am M41003 118 (6 * ((M41003.1 0) 117)) hs41006) hX (cwV 2 hts gX4_digest_X4_mixAll rfl rfl rfl hdX4_mixAll ⟨Nat.le_of_ble_eq_true rfl, Nat.le_of_ble_eq_true rfl⟩) hKs hK hP hD hS hA _ _ (kw_self _) (kw_self _).symm rfl rfl rfl rfl hl.1 (Nat.le_of_ble_eq_true rfl) dX4_digest_97 ⟨Nat.zero_le _, Nat.zero_le _⟩ (fun H locs hP hD hS => ?_)
        have hP : va_P D vwCl (mdW cI am (fx4_mixAll M41003 118 (6 * ((M41003.1 0) 117)))) H := hP
        have hD : va_D A (mdW cI am (fx4_mixAll M41003 118 (6 * ((M41003.1 0) 117)))) := hD
        generalize eM41004 : fx4_mixAll M41003 118 (6 * ((M41003.1 0) 117)) = M41004 at hR hP hD
        replace hR := bnd_e hR
        refine lv_aload_n hx hb dX4_digest_100 rfl (lv_at hl 1 rfl) ?_
        refine lv_aload_n hx hb dX4_digest_101 rfl (lv_at hl 1 rfl) ?_
        refine va_get (D := D) (ci := 4) (v := .int (M41004.1 4 0)) (C := RX4) (T := TX4) (N := 8) hx hb hts hinX4 hown hK hP 0 rfl rfl 3 (by decide) q6 (fun _ h9 => h9) rfl dX4_digest_102 ?_
        refine kcV (ci := 4) (q0 := 0) (As := [.int (M41004.1 4 0)]) (rest := []) E.1 (cx4_mix E am M41004 (M41004.1 4 0)) hX (cwV 1 hts gX4_digest_X4_mix rfl rfl rfl hdX4_mix ⟨Nat.le_of_ble_eq_true rfl, Nat.le_of_ble_eq_true rfl⟩) hKs hK hP hD hS hA _ _ (kw_self _) (kw_self _).symm rfl rfl rfl rfl hl.1 (Nat.le_of_ble_eq_true rfl) dX4_digest_105 ⟨Nat.zero_le _, Nat.zero_le _⟩ (fun H locs hP hD hS => ?_)
        have hP : va_P D vwCl (mdW cI am (fx4_mix M41004 (M41004.1 4 0))) H := hP
        have hD : va_D A (mdW cI am (fx4_mix M41004 (M41004.1 4 0))) := hD
        generalize eM41005 : fx4_mix M41004 (M41004.1 4 0) = M41005 at hR hP hD
        replace hR := bnd_e hR
        refine lv_aload_n hx hb dX4_digest_108 rfl (lv_at hl 1 rfl) ?_
        refine va_get (D := D) (ci := 4) (v := .long M41005.2) (C := RX4) (T := TX4) (N := 8) hx hb hts hinX4 hown hK hP 0 rfl rfl 7 (by decide) q3 (fun _ h9 => h9) rfl dX4_digest_109 ?_
        subst hR
        exact krJ hx hb hr hlk hP hD hS dX4_digest_112 rfl rfl
      · rw [if_neg c41001] at hR hF
        refine lv_aload_n hx hb dX4_digest_46 rfl (lv_at hl 1 rfl) ?_
        refine lv_aload_n hx hb dX4_digest_47 rfl (lv_at hl 1 rfl) ?_
        refine lv_iload_n hx hb dX4_digest_48 rfl (lv_at hl 0 rfl) ?_
        refine kcI (ci := 4) (q0 := 0) (As := [.int y1]) (rest := [.ref (am 0)]) E.1 (cx4_tellStatus E am (M.1 4 0) (M.1 4 1) (M.1 4 2) M.2 (M.1 0) y1) hX (cwV 1 hts gX4_digest_X4_tellStatus rfl rfl rfl hdX4_tellStatus ⟨Nat.le_of_ble_eq_true rfl, Nat.le_of_ble_eq_true rfl⟩) hKs hK hP hD hS hA _ _ (md_mn cI am M) (md_mn cI am M).symm rfl rfl rfl rfl hl.1 (Nat.le_of_ble_eq_true rfl) dX4_digest_49 ⟨Nat.zero_le _, Nat.zero_le _⟩ (fun H locs hP hD hS => ?_)
        generalize ev41009 : fx4_tellStatus (M.1 0) y1 = v41009 at hR hF ⊢
        replace hR := bnd_e hR
        replace hF := bnd_p hF
        refine kcV (ci := 4) (q0 := 0) (As := [.int v41009]) (rest := []) E.1 (cx4_mix E am M v41009) hX (cwV 1 hts gX4_digest_X4_mix rfl rfl rfl hdX4_mix ⟨Nat.le_of_ble_eq_true rfl, Nat.le_of_ble_eq_true rfl⟩) hKs hK hP hD hS hA _ _ (kw_self _) (kw_self _).symm rfl rfl rfl rfl hl.1 (Nat.le_of_ble_eq_true rfl) dX4_digest_52 ⟨Nat.zero_le _, Nat.zero_le _⟩ (fun H locs hP hD hS => ?_)
        have hP : va_P D vwCl (mdW cI am (fx4_mix M v41009)) H := hP
        have hD : va_D A (mdW cI am (fx4_mix M v41009)) := hD
        generalize eM41010 : fx4_mix M v41009 = M41010 at hR hF hP hD
        replace hR := bnd_e hR
        replace hF := bnd_p hF
        refine lv_iinc (v := y1 + 1) (lv' := [(1, .int (y1 + 1)), (0, .ref (am 0))]) hx hb dX4_digest_55 hl (k := 0) rfl rfl (by decide) rfl (fun ls hl => ?_)
        refine lv_goto (tgt := 40) hx hb dX4_digest_58 (by decide) ?_
        exact ih40 (y1 + 1) M41010 _ _ ls hR hF hP hD hS (lv_sub hl [0, 1] rfl)
  exact loop40 kfu 0 M3 _ _ ls hR hF hP hD hS (lv_sub hl [0, 1] rfl)

theorem hdX4_undo : yX4_undo.cls = RX4 ∧ yX4_undo.cls ≠ "java/lang/invoke/MethodHandle" ∧ yX4_undo.cls ≠ "java/lang/invoke/VarHandle" ∧ (parseMethodDescriptor yX4_undo.desc).map (fun d => d.parameters.length) = some 0 := by decide +kernel
def fx4_undo_L33 : Nat → Int32 → Md → Int32 × (Md)
  | 0, _, M => (0, M)
  | n33 + 1, y1, M => (if 1203 ≤ y1 then (M.1 4 0, M) else (bnd (upd (M.1 0) (y1).toNatClampNeg ((M.1 1) ((1203 * (M.1 4 0)) + y1).toNatClampNeg)) (fun g34004 => fx4_undo_L33 n33 (y1 + 1) (va_up M.1 0 g34004, M.2))))
def sx4_undo_L33 : Nat → Int32 → Md → Prop
  | 0, _, _ => False
  | n33 + 1, y1, M => (if 1203 ≤ y1 then True else (vp_in ((1203 * (M.1 4 0)) + y1) 4812 ∧ (vp_in (y1) 1203 ∧ (bnd (upd (M.1 0) (y1).toNatClampNeg ((M.1 1) ((1203 * (M.1 4 0)) + y1).toNatClampNeg)) (fun g34004 => sx4_undo_L33 n33 (y1 + 1) (va_up M.1 0 g34004, M.2))))))
def fx4_undo (M : Md) : Int32 × (Md) := (if (M.1 4 0) = 0 then (bnd (fx4_refused M 1) (fun u2 => (if u2.1 = 0 then fx4_undo_L33 kfu 0 (sset u2.2.1 4 0 ((u2.2.1 4 0) - 1), u2.2.2) else (0, u2.2)))) else (bnd (fx4_refused M 0) (fun u4 => (if u4.1 = 0 then fx4_undo_L33 kfu 0 (sset u4.2.1 4 0 ((u4.2.1 4 0) - 1), u4.2.2) else (0, u4.2)))))
def sx4_undo (M : Md) : Prop := (if (M.1 4 0) = 0 then (bnd (fx4_refused M 1) (fun u2 => (if u2.1 = 0 then sx4_undo_L33 kfu 0 (sset u2.2.1 4 0 ((u2.2.1 4 0) - 1), u2.2.2) else True))) else (bnd (fx4_refused M 0) (fun u4 => (if u4.1 = 0 then sx4_undo_L33 kfu 0 (sset u4.2.1 4 0 ((u4.2.1 4 0) - 1), u4.2.2) else True))))
set_option maxHeartbeats 4000000 in
set_option maxRecDepth 100000 in
theorem cx4_undo {l : Launch} {D : va_G} {cI cB cS cJ : ClassId} {K : State → Prop} (E : kE D cI cB cS cJ K) (am : Nat → Nat) (M : Md) (hF : sx4_undo M) : kI l D K yX4_undo wsX4_undo 1 21 [.ref (am 0)] (mdW cI am M) (fx4_undo M).1 (mdW cI am ((fx4_undo M).2)) := by
  refine kI_of (own := RX4) (cc := cX4_undo) (maxL := 2) (tys := kty cI cB cS cJ) (fun U h => (E.2 U h).1) (by decide) rfl rfl (Nat.le_of_ble_eq_true rfl) ?_
  intro p e s m below meth c A ls hx hb hr hml hts hown hlk hKs hK hP hD hA hS hl
  have hl : lv_has ls 2 [(0, .ref (am 0))] := hl
  have hX : CallFix p m c cX4_undo 2 s _ wsX4_undo RX4 := ⟨hx, hb, hml, hown, hts⟩
  have hinX4 : ∀ w ∈ wsX40, w ∈ wsX4_undo := fun w h => List.mem_cons_of_mem _ (List.mem_append_right _ h)
  have q1 := hts (.fieldLink RX4 26 "LabelStationModel" "saved" "I") (List.mem_of_getElem? (i := 1) rfl)
  have q2 := hts (.fieldLink RX4 7 "LabelStationModel" "now" "[I") (List.mem_of_getElem? (i := 2) rfl)
  have q3 := hts (.fieldLink RX4 13 "LabelStationModel" "past" "[I") (List.mem_of_getElem? (i := 3) rfl)
  generalize hR : fx4_undo M = R
  rw [fx4_undo] at hR
  rw [sx4_undo] at hF
  refine lv_aload_n hx hb dX4_undo_0 rfl (lv_at hl 0 rfl) ?_
  refine lv_aload_n hx hb dX4_undo_1 rfl (lv_at hl 0 rfl) ?_
  refine va_get (D := D) (ci := 4) (v := .int (M.1 4 0)) (C := RX4) (T := TX4) (N := 8) hx hb hts hinX4 hown hK hP 0 rfl rfl 3 (by decide) q1 (fun _ h9 => h9) rfl dX4_undo_2 ?_
  refine lv_if_ne (tgt := 12) hx hb dX4_undo_5 (by decide) (fun c1 => ?_) (fun c1 => ?_)
  · rw [if_neg c1] at hR hF
    refine lv_iconst (v := 0) hx hb dX4_undo_12 (by decide) ?_
    refine kcI (ci := 4) (q0 := 0) (As := [.int 0]) (rest := []) E.1 (cx4_refused E am M 0) hX (cwV 1 hts gX4_undo_X4_refused rfl rfl rfl hdX4_refused ⟨Nat.le_of_ble_eq_true rfl, Nat.le_of_ble_eq_true rfl⟩) hKs hK hP hD hS hA _ _ (kw_self _) (kw_self _).symm rfl rfl rfl rfl hl.1 (Nat.le_of_ble_eq_true rfl) dX4_undo_13 ⟨Nat.zero_le _, Nat.zero_le _⟩ (fun H locs hP hD hS => ?_)
    have hP : va_P D vwCl (mdW cI am ((fx4_refused M 0).2)) H := hP
    have hD : va_D A (mdW cI am ((fx4_refused M 0).2)) := hD
    generalize eu4 : fx4_refused M 0 = u4 at hR hF hP hD ⊢
    replace hR := bnd_e hR
    replace hF := bnd_p hF
    refine lv_if_eq (tgt := 21) hx hb dX4_undo_16 (by decide) (fun c5 => ?_) (fun c5 => ?_)
    · rw [if_pos c5] at hR hF
      refine lv_aload_n hx hb dX4_undo_21 rfl (lv_at hl 0 rfl) ?_
      refine lv_dup hx hb dX4_undo_22 rfl ?_
      refine va_get (D := D) (ci := 4) (v := .int (u4.2.1 4 0)) (C := RX4) (T := TX4) (N := 8) hx hb hts hinX4 hown hK hP 0 rfl rfl 3 (by decide) q1 (fun _ h9 => h9) rfl dX4_undo_23 ?_
      refine lv_iconst (v := 1) hx hb dX4_undo_26 (by decide) ?_
      refine lv_isub hx hb dX4_undo_27 ?_
      refine va_put (D := D) (ci := 4) (v := .int ((u4.2.1 4 0) - 1)) (ty := .int) (C := RX4) (T := TX4) (N := 8) hx hb hts hinX4 tyX4 tyX4_ok nmX4 hown hK hP hD hS 0 rfl rfl 3 (by decide) q1 (fun _ h9 => h9) rfl (by decide +kernel) rfl rfl (Nat.le_of_ble_eq_true rfl) dX4_undo_28 (fun H locs hP hD hS => ?_)
      have hP : va_P D vwCl (mdW cI am (sset u4.2.1 4 0 ((u4.2.1 4 0) - 1), u4.2.2)) H := hP
      have hD : va_D A (mdW cI am (sset u4.2.1 4 0 ((u4.2.1 4 0) - 1), u4.2.2)) := hD
      refine lv_iconst (v := 0) hx hb dX4_undo_31 (by decide) ?_
      refine lv_istore_n (lv' := [(1, .int 0), (0, .ref (am 0))]) hx hb dX4_undo_32 rfl hl (by decide) rfl (fun ls hl => ?_)
      have loop33 : ∀ (n33 : Nat) (y1 : Int32) (M : Md) (H : Heap) (locs : List Loc) (ls : Array Slot), fx4_undo_L33 n33 y1 M = R → sx4_undo_L33 n33 y1 M → va_P D vwCl (mdW cI am M) H → va_D A (mdW cI am M) → va_S A s.heap H locs → lv_has ls 2 [(1, .int y1), (0, .ref (am 0))] → W p l e (kRm 1 21) s m ([.ref (am 0)] : List Value).toArray below meth c H locs 0 0 (kQI D below R.1 (mdW cI am R.2) A ([.ref (am 0)] : List Value).toArray s) (F0 m 33 ls []) := by
        intro n33
        induction n33 with
        | zero => intro y1 M H locs ls hR hF; exact hF.elim
        | succ n33 ih33 =>
          intro y1 M H locs ls hR hF hP hD hS hl
          rw [fx4_undo_L33] at hR
          rw [sx4_undo_L33] at hF
          refine lv_iload_n hx hb dX4_undo_33 rfl (lv_at hl 0 rfl) ?_
          refine lv_sipush (v := 1203) hx hb dX4_undo_34 (by decide) ?_
          refine lv_icmp_ge (tgt := 67) hx hb dX4_undo_37 (by decide) (fun c34001 => ?_) (fun c34001 => ?_)
          · rw [if_pos c34001] at hR hF
            refine lv_aload_n hx hb dX4_undo_67 rfl (lv_at hl 1 rfl) ?_
            refine va_get (D := D) (ci := 4) (v := .int (M.1 4 0)) (C := RX4) (T := TX4) (N := 8) hx hb hts hinX4 hown hK hP 0 rfl rfl 3 (by decide) q1 (fun _ h9 => h9) rfl dX4_undo_68 ?_
            subst hR
            exact krI hx hb hr hlk hP hD hS dX4_undo_71 rfl rfl
          · rw [if_neg c34001] at hR hF
            refine lv_aload_n hx hb dX4_undo_40 rfl (lv_at hl 1 rfl) ?_
            refine va_get (D := D) (ci := 4) (v := .ref (am 1)) (C := RX4) (T := TX4) (N := 8) hx hb hts hinX4 hown hK hP 0 rfl rfl 0 (by decide) q2 (fun _ h9 => h9) rfl dX4_undo_41 ?_
            refine lv_iload_n hx hb dX4_undo_44 rfl (lv_at hl 0 rfl) ?_
            refine lv_aload_n hx hb dX4_undo_45 rfl (lv_at hl 1 rfl) ?_
            refine va_get (D := D) (ci := 4) (v := .ref (am 2)) (C := RX4) (T := TX4) (N := 8) hx hb hts hinX4 hown hK hP 0 rfl rfl 1 (by decide) q3 (fun _ h9 => h9) rfl dX4_undo_46 ?_
            refine lv_sipush (v := 1203) hx hb dX4_undo_49 (by decide) ?_
            refine lv_aload_n hx hb dX4_undo_52 rfl (lv_at hl 1 rfl) ?_
            refine va_get (D := D) (ci := 4) (v := .int (M.1 4 0)) (C := RX4) (T := TX4) (N := 8) hx hb hts hinX4 hown hK hP 0 rfl rfl 3 (by decide) q1 (fun _ h9 => h9) rfl dX4_undo_53 ?_
            refine lv_imul hx hb dX4_undo_56 ?_
            refine lv_iload_n hx hb dX4_undo_57 rfl (lv_at hl 0 rfl) ?_
            refine lv_iadd hx hb dX4_undo_58 ?_
            obtain ⟨hi34002, hF⟩ := hF
            refine va_iald hx hb hK hP 2 0 rfl rfl hi34002 dX4_undo_59 ?_
            obtain ⟨hi34003, hF⟩ := hF
            refine va_iast hx hb hK hP hD hS 1 0 rfl rfl hi34003 dX4_undo_60 (fun H locs hP hD hS => ?_)
            have hP : va_P D vwCl (mdW cI am (va_up M.1 0 (upd (M.1 0) (y1).toNatClampNeg ((M.1 1) ((1203 * (M.1 4 0)) + y1).toNatClampNeg)), M.2)) H := hP
            have hD : va_D A (mdW cI am (va_up M.1 0 (upd (M.1 0) (y1).toNatClampNeg ((M.1 1) ((1203 * (M.1 4 0)) + y1).toNatClampNeg)), M.2)) := hD
            generalize eg34004 : upd (M.1 0) (y1).toNatClampNeg ((M.1 1) ((1203 * (M.1 4 0)) + y1).toNatClampNeg) = g34004 at hR hP hD hF
            replace hR := bnd_e hR
            replace hF := bnd_p hF
            refine lv_iinc (v := y1 + 1) (lv' := [(1, .int (y1 + 1)), (0, .ref (am 0))]) hx hb dX4_undo_61 hl (k := 0) rfl rfl (by decide) rfl (fun ls hl => ?_)
            refine lv_goto (tgt := 33) hx hb dX4_undo_64 (by decide) ?_
            exact ih33 (y1 + 1) (va_up M.1 0 g34004, M.2) _ _ ls hR hF hP hD hS (lv_sub hl [0, 1] rfl)
      exact loop33 kfu 0 (sset u4.2.1 4 0 ((u4.2.1 4 0) - 1), u4.2.2) _ _ ls hR hF hP hD hS (lv_sub hl [0, 1] rfl)
    · rw [if_neg c5] at hR hF
      refine lv_iconst (v := 0) hx hb dX4_undo_19 (by decide) ?_
      subst hR
      exact krI hx hb hr hlk hP hD hS dX4_undo_20 rfl rfl
  · rw [if_pos c1] at hR hF
    refine lv_iconst (v := 1) hx hb dX4_undo_8 (by decide) ?_
    refine lv_goto (tgt := 13) hx hb dX4_undo_9 (by decide) ?_
    refine kcI (ci := 4) (q0 := 0) (As := [.int 1]) (rest := []) E.1 (cx4_refused E am M 1) hX (cwV 1 hts gX4_undo_X4_refused rfl rfl rfl hdX4_refused ⟨Nat.le_of_ble_eq_true rfl, Nat.le_of_ble_eq_true rfl⟩) hKs hK hP hD hS hA _ _ (kw_self _) (kw_self _).symm rfl rfl rfl rfl hl.1 (Nat.le_of_ble_eq_true rfl) dX4_undo_13 ⟨Nat.zero_le _, Nat.zero_le _⟩ (fun H locs hP hD hS => ?_)
    have hP : va_P D vwCl (mdW cI am ((fx4_refused M 1).2)) H := hP
    have hD : va_D A (mdW cI am ((fx4_refused M 1).2)) := hD
    generalize eu2 : fx4_refused M 1 = u2 at hR hF hP hD ⊢
    replace hR := bnd_e hR
    replace hF := bnd_p hF
    refine lv_if_eq (tgt := 21) hx hb dX4_undo_16 (by decide) (fun c3 => ?_) (fun c3 => ?_)
    · rw [if_pos c3] at hR hF
      refine lv_aload_n hx hb dX4_undo_21 rfl (lv_at hl 0 rfl) ?_
      refine lv_dup hx hb dX4_undo_22 rfl ?_
      refine va_get (D := D) (ci := 4) (v := .int (u2.2.1 4 0)) (C := RX4) (T := TX4) (N := 8) hx hb hts hinX4 hown hK hP 0 rfl rfl 3 (by decide) q1 (fun _ h9 => h9) rfl dX4_undo_23 ?_
      refine lv_iconst (v := 1) hx hb dX4_undo_26 (by decide) ?_
      refine lv_isub hx hb dX4_undo_27 ?_
      refine va_put (D := D) (ci := 4) (v := .int ((u2.2.1 4 0) - 1)) (ty := .int) (C := RX4) (T := TX4) (N := 8) hx hb hts hinX4 tyX4 tyX4_ok nmX4 hown hK hP hD hS 0 rfl rfl 3 (by decide) q1 (fun _ h9 => h9) rfl (by decide +kernel) rfl rfl (Nat.le_of_ble_eq_true rfl) dX4_undo_28 (fun H locs hP hD hS => ?_)
      have hP : va_P D vwCl (mdW cI am (sset u2.2.1 4 0 ((u2.2.1 4 0) - 1), u2.2.2)) H := hP
      have hD : va_D A (mdW cI am (sset u2.2.1 4 0 ((u2.2.1 4 0) - 1), u2.2.2)) := hD
      refine lv_iconst (v := 0) hx hb dX4_undo_31 (by decide) ?_
      refine lv_istore_n (lv' := [(1, .int 0), (0, .ref (am 0))]) hx hb dX4_undo_32 rfl hl (by decide) rfl (fun ls hl => ?_)
      have loop33 : ∀ (n33 : Nat) (y1 : Int32) (M : Md) (H : Heap) (locs : List Loc) (ls : Array Slot), fx4_undo_L33 n33 y1 M = R → sx4_undo_L33 n33 y1 M → va_P D vwCl (mdW cI am M) H → va_D A (mdW cI am M) → va_S A s.heap H locs → lv_has ls 2 [(1, .int y1), (0, .ref (am 0))] → W p l e (kRm 1 21) s m ([.ref (am 0)] : List Value).toArray below meth c H locs 0 0 (kQI D below R.1 (mdW cI am R.2) A ([.ref (am 0)] : List Value).toArray s) (F0 m 33 ls []) := by
        intro n33
        induction n33 with
        | zero => intro y1 M H locs ls hR hF; exact hF.elim
        | succ n33 ih33 =>
          intro y1 M H locs ls hR hF hP hD hS hl
          rw [fx4_undo_L33] at hR
          rw [sx4_undo_L33] at hF
          refine lv_iload_n hx hb dX4_undo_33 rfl (lv_at hl 0 rfl) ?_
          refine lv_sipush (v := 1203) hx hb dX4_undo_34 (by decide) ?_
          refine lv_icmp_ge (tgt := 67) hx hb dX4_undo_37 (by decide) (fun c34001 => ?_) (fun c34001 => ?_)
          · rw [if_pos c34001] at hR hF
            refine lv_aload_n hx hb dX4_undo_67 rfl (lv_at hl 1 rfl) ?_
            refine va_get (D := D) (ci := 4) (v := .int (M.1 4 0)) (C := RX4) (T := TX4) (N := 8) hx hb hts hinX4 hown hK hP 0 rfl rfl 3 (by decide) q1 (fun _ h9 => h9) rfl dX4_undo_68 ?_
            subst hR
            exact krI hx hb hr hlk hP hD hS dX4_undo_71 rfl rfl
          · rw [if_neg c34001] at hR hF
            refine lv_aload_n hx hb dX4_undo_40 rfl (lv_at hl 1 rfl) ?_
            refine va_get (D := D) (ci := 4) (v := .ref (am 1)) (C := RX4) (T := TX4) (N := 8) hx hb hts hinX4 hown hK hP 0 rfl rfl 0 (by decide) q2 (fun _ h9 => h9) rfl dX4_undo_41 ?_
            refine lv_iload_n hx hb dX4_undo_44 rfl (lv_at hl 0 rfl) ?_
            refine lv_aload_n hx hb dX4_undo_45 rfl (lv_at hl 1 rfl) ?_
            refine va_get (D := D) (ci := 4) (v := .ref (am 2)) (C := RX4) (T := TX4) (N := 8) hx hb hts hinX4 hown hK hP 0 rfl rfl 1 (by decide) q3 (fun _ h9 => h9) rfl dX4_undo_46 ?_
            refine lv_sipush (v := 1203) hx hb dX4_undo_49 (by decide) ?_
            refine lv_aload_n hx hb dX4_undo_52 rfl (lv_at hl 1 rfl) ?_
            refine va_get (D := D) (ci := 4) (v := .int (M.1 4 0)) (C := RX4) (T := TX4) (N := 8) hx hb hts hinX4 hown hK hP 0 rfl rfl 3 (by decide) q1 (fun _ h9 => h9) rfl dX4_undo_53 ?_
            refine lv_imul hx hb dX4_undo_56 ?_
            refine lv_iload_n hx hb dX4_undo_57 rfl (lv_at hl 0 rfl) ?_
            refine lv_iadd hx hb dX4_undo_58 ?_
            obtain ⟨hi34002, hF⟩ := hF
            refine va_iald hx hb hK hP 2 0 rfl rfl hi34002 dX4_undo_59 ?_
            obtain ⟨hi34003, hF⟩ := hF
            refine va_iast hx hb hK hP hD hS 1 0 rfl rfl hi34003 dX4_undo_60 (fun H locs hP hD hS => ?_)
            have hP : va_P D vwCl (mdW cI am (va_up M.1 0 (upd (M.1 0) (y1).toNatClampNeg ((M.1 1) ((1203 * (M.1 4 0)) + y1).toNatClampNeg)), M.2)) H := hP
            have hD : va_D A (mdW cI am (va_up M.1 0 (upd (M.1 0) (y1).toNatClampNeg ((M.1 1) ((1203 * (M.1 4 0)) + y1).toNatClampNeg)), M.2)) := hD
            generalize eg34004 : upd (M.1 0) (y1).toNatClampNeg ((M.1 1) ((1203 * (M.1 4 0)) + y1).toNatClampNeg) = g34004 at hR hP hD hF
            replace hR := bnd_e hR
            replace hF := bnd_p hF
            refine lv_iinc (v := y1 + 1) (lv' := [(1, .int (y1 + 1)), (0, .ref (am 0))]) hx hb dX4_undo_61 hl (k := 0) rfl rfl (by decide) rfl (fun ls hl => ?_)
            refine lv_goto (tgt := 33) hx hb dX4_undo_64 (by decide) ?_
            exact ih33 (y1 + 1) (va_up M.1 0 g34004, M.2) _ _ ls hR hF hP hD hS (lv_sub hl [0, 1] rfl)
      exact loop33 kfu 0 (sset u2.2.1 4 0 ((u2.2.1 4 0) - 1), u2.2.2) _ _ ls hR hF hP hD hS (lv_sub hl [0, 1] rfl)
    · rw [if_neg c3] at hR hF
      refine lv_iconst (v := 0) hx hb dX4_undo_19 (by decide) ?_
      subst hR
      exact krI hx hb hr hlk hP hD hS dX4_undo_20 rfl rfl

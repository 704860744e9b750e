/-! the model, whole: printed by my own program (gen.py) out of the listing -/
theorem hdX4_status : yX4_status.cls = RX4 ∧ yX4_status.cls ≠ "java/lang/invoke/MethodHandle" ∧ yX4_status.cls ≠ "java/lang/invoke/VarHandle" ∧ (parseMethodDescriptor yX4_status.desc).map (fun d => d.parameters.length) = some 1 := by decide +kernel
def fx4_status (M : Md) (x1 : Int32) : Int32 × (Md) := (if (fx4_within x1 0 7) = 0 then (bnd (fx4_refused M 1) (fun u2 => (if u2.1 = 0 then (bnd (fx4_tellStatus (u2.2.1 0) x1) (fun v4 => (v4, u2.2))) else (0, u2.2)))) else (bnd (fx4_refused M 0) (fun u5 => (if u5.1 = 0 then (bnd (fx4_tellStatus (u5.2.1 0) x1) (fun v7 => (v7, u5.2))) else (0, u5.2)))))
set_option maxHeartbeats 4000000 in
set_option maxRecDepth 100000 in
theorem cx4_status {l : Launch} {D : va_G} {cI cB cS cJ : ClassId} {K : State → Prop} (E : kE D cI cB cS cJ K) (am : Nat → Nat) (M : Md) (x1 : Int32) : kI l D K yX4_status wsX4_status 1 22 [.ref (am 0), .int x1] (mdW cI am M) (fx4_status M x1).1 (mdW cI am ((fx4_status M x1).2)) := by
  refine kI_of (own := RX4) (cc := cX4_status) (maxL := 2) (tys := kty cI cB cS cJ) (fun U h => (E.2 U h).1) (by decide) rfl rfl (Nat.le_of_ble_eq_true rfl) ?_
  intro p e s m below meth c A ls hx hb hr hml hts hown hlk hKs hK hP hD hA hS hl
  have hl : lv_has ls 2 [(0, .ref (am 0)), (1, .int x1)] := hl
  have hX : CallFix p m c cX4_status 2 s _ wsX4_status RX4 := ⟨hx, hb, hml, hown, hts⟩
  generalize hR : fx4_status M x1 = R
  rw [fx4_status] at hR
  refine lv_aload_n hx hb dX4_status_0 rfl (lv_at hl 0 rfl) ?_
  refine lv_iload_n hx hb dX4_status_1 rfl (lv_at hl 1 rfl) ?_
  refine lv_iconst (v := 0) hx hb dX4_status_2 (by decide) ?_
  refine lv_bipush (v := 7) hx hb dX4_status_3 (by decide) ?_
  refine kcsI (As := [.int x1, .int 0, .int 7]) (rest := [.ref (am 0)]) E.1 (cx4_within E x1 0 7) hX (va_cwS 3 hts gX4_status_X4_within rfl rfl rfl hdX4_within.2 ⟨Nat.le_of_ble_eq_true rfl, Nat.le_of_ble_eq_true rfl⟩) hKs hP hD hS hA _ _ (kw_nil _) (kw_nil _).symm rfl rfl hl.1 (Nat.le_of_ble_eq_true rfl) dX4_status_5 ⟨Nat.zero_le _, Nat.zero_le _⟩ (fun H locs hP hD hS => ?_)
  refine lv_if_eq (tgt := 15) hx hb dX4_status_8 (by decide) (fun c1 => ?_) (fun c1 => ?_)
  · rw [if_pos c1] at hR
    refine lv_iconst (v := 1) hx hb dX4_status_15 (by decide) ?_
    refine kcI (ci := 4) (q0 := 0) (As := [.int 1]) (rest := []) E.1 (cx4_refused E am M 1) hX (cwV 1 hts gX4_status_X4_refused rfl rfl rfl hdX4_refused ⟨Nat.le_of_ble_eq_true rfl, Nat.le_of_ble_eq_true rfl⟩) hKs hK hP hD hS hA _ _ (kw_self _) (kw_self _).symm rfl rfl rfl rfl hl.1 (Nat.le_of_ble_eq_true rfl) dX4_status_16 ⟨Nat.zero_le _, Nat.zero_le _⟩ (fun H locs hP hD hS => ?_)
    have hP : va_P D vwCl (mdW cI am ((fx4_refused M 1).2)) H := hP
    have hD : va_D A (mdW cI am ((fx4_refused M 1).2)) := hD
    generalize eu2 : fx4_refused M 1 = u2 at hR hP hD ⊢
    replace hR := bnd_e hR
    refine lv_if_eq (tgt := 26) hx hb dX4_status_19 (by decide) (fun c3 => ?_) (fun c3 => ?_)
    · rw [if_pos c3] at hR
      refine lv_aload_n hx hb dX4_status_26 rfl (lv_at hl 0 rfl) ?_
      refine lv_iload_n hx hb dX4_status_27 rfl (lv_at hl 1 rfl) ?_
      refine kcI (ci := 4) (q0 := 0) (As := [.int x1]) (rest := []) E.1 (cx4_tellStatus E am (u2.2.1 4 0) (u2.2.1 4 1) (u2.2.1 4 2) u2.2.2 (u2.2.1 0) x1) hX (cwV 1 hts gX4_status_X4_tellStatus rfl rfl rfl hdX4_tellStatus ⟨Nat.le_of_ble_eq_true rfl, Nat.le_of_ble_eq_true rfl⟩) hKs hK hP hD hS hA _ _ (md_mn cI am u2.2) (md_mn cI am u2.2).symm rfl rfl rfl rfl hl.1 (Nat.le_of_ble_eq_true rfl) dX4_status_28 ⟨Nat.zero_le _, Nat.zero_le _⟩ (fun H locs hP hD hS => ?_)
      generalize ev4 : fx4_tellStatus (u2.2.1 0) x1 = v4 at hR ⊢
      replace hR := bnd_e hR
      subst hR
      exact krI hx hb hr hlk hP hD hS dX4_status_31 rfl rfl
    · rw [if_neg c3] at hR
      refine lv_iconst (v := 0) hx hb dX4_status_22 (by decide) ?_
      refine lv_goto (tgt := 31) hx hb dX4_status_23 (by decide) ?_
      subst hR
      exact krI hx hb hr hlk hP hD hS dX4_status_31 rfl rfl
  · rw [if_neg c1] at hR
    refine lv_iconst (v := 0) hx hb dX4_status_11 (by decide) ?_
    refine lv_goto (tgt := 16) hx hb dX4_status_12 (by decide) ?_
    refine kcI (ci := 4) (q0 := 0) (As := [.int 0]) (rest := []) E.1 (cx4_refused E am M 0) hX (cwV 1 hts gX4_status_X4_refused rfl rfl rfl hdX4_refused ⟨Nat.le_of_ble_eq_true rfl, Nat.le_of_ble_eq_true rfl⟩) hKs hK hP hD hS hA _ _ (kw_self _) (kw_self _).symm rfl rfl rfl rfl hl.1 (Nat.le_of_ble_eq_true rfl) dX4_status_16 ⟨Nat.zero_le _, Nat.zero_le _⟩ (fun H locs hP hD hS => ?_)
    have hP : va_P D vwCl (mdW cI am ((fx4_refused M 0).2)) H := hP
    have hD : va_D A (mdW cI am ((fx4_refused M 0).2)) := hD
    generalize eu5 : fx4_refused M 0 = u5 at hR hP hD ⊢
    replace hR := bnd_e hR
    refine lv_if_eq (tgt := 26) hx hb dX4_status_19 (by decide) (fun c6 => ?_) (fun c6 => ?_)
    · rw [if_pos c6] at hR
      refine lv_aload_n hx hb dX4_status_26 rfl (lv_at hl 0 rfl) ?_
      refine lv_iload_n hx hb dX4_status_27 rfl (lv_at hl 1 rfl) ?_
      refine kcI (ci := 4) (q0 := 0) (As := [.int x1]) (rest := []) E.1 (cx4_tellStatus E am (u5.2.1 4 0) (u5.2.1 4 1) (u5.2.1 4 2) u5.2.2 (u5.2.1 0) x1) hX (cwV 1 hts gX4_status_X4_tellStatus rfl rfl rfl hdX4_tellStatus ⟨Nat.le_of_ble_eq_true rfl, Nat.le_of_ble_eq_true rfl⟩) hKs hK hP hD hS hA _ _ (md_mn cI am u5.2) (md_mn cI am u5.2).symm rfl rfl rfl rfl hl.1 (Nat.le_of_ble_eq_true rfl) dX4_status_28 ⟨Nat.zero_le _, Nat.zero_le _⟩ (fun H locs hP hD hS => ?_)
      generalize ev7 : fx4_tellStatus (u5.2.1 0) x1 = v7 at hR ⊢
      replace hR := bnd_e hR
      subst hR
      exact krI hx hb hr hlk hP hD hS dX4_status_31 rfl rfl
    · rw [if_neg c6] at hR
      refine lv_iconst (v := 0) hx hb dX4_status_22 (by decide) ?_
      refine lv_goto (tgt := 31) hx hb dX4_status_23 (by decide) ?_
      subst hR
      exact krI hx hb hr hlk hP hD hS dX4_status_31 rfl rfl

theorem hdX4_item : yX4_item.cls = RX4 ∧ yX4_item.cls ≠ "java/lang/invoke/MethodHandle" ∧ yX4_item.cls ≠ "java/lang/invoke/VarHandle" ∧ (parseMethodDescriptor yX4_item.desc).map (fun d => d.parameters.length) = some 2 := by decide +kernel
def fx4_item (M : Md) (x1 : Int32) (x2 : Int32) : Int32 × (Md) := (bnd (fx4_itemOf (M.1 0) x1) (fun v1 => (if v1 = (-1) then (bnd (fx4_refused M 1) (fun u3 => (if u3.1 = 0 then ((u3.2.1 0) (fx4_thing v1 (1 + x2)).toNatClampNeg, u3.2) else (0, u3.2)))) else (if (fx4_within x2 0 2) = 0 then (bnd (fx4_refused M 2) (fun u7 => (if u7.1 = 0 then ((u7.2.1 0) (fx4_thing v1 (1 + x2)).toNatClampNeg, u7.2) else (0, u7.2)))) else (bnd (fx4_refused M 0) (fun u10 => (if u10.1 = 0 then ((u10.2.1 0) (fx4_thing v1 (1 + x2)).toNatClampNeg, u10.2) else (0, u10.2))))))))
def sx4_item (M : Md) (x1 : Int32) (x2 : Int32) : Prop := (sx4_itemOf (M.1 0) x1 ∧ (bnd (fx4_itemOf (M.1 0) x1) (fun v1 => (if v1 = (-1) then (bnd (fx4_refused M 1) (fun u3 => (if u3.1 = 0 then vp_in (fx4_thing v1 (1 + x2)) 1203 else True))) else (if (fx4_within x2 0 2) = 0 then (bnd (fx4_refused M 2) (fun u7 => (if u7.1 = 0 then vp_in (fx4_thing v1 (1 + x2)) 1203 else True))) else (bnd (fx4_refused M 0) (fun u10 => (if u10.1 = 0 then vp_in (fx4_thing v1 (1 + x2)) 1203 else True))))))))
set_option maxHeartbeats 4000000 in
set_option maxRecDepth 100000 in
theorem cx4_item {l : Launch} {D : va_G} {cI cB cS cJ : ClassId} {K : State → Prop} (E : kE D cI cB cS cJ K) (am : Nat → Nat) (M : Md) (x1 : Int32) (x2 : Int32) (hF : sx4_item M x1 x2) : kI l D K yX4_item wsX4_item 2 44 [.ref (am 0), .int x1, .int x2] (mdW cI am M) (fx4_item M x1 x2).1 (mdW cI am ((fx4_item M x1 x2).2)) := by
  refine kI_of (own := RX4) (cc := cX4_item) (maxL := 4) (tys := kty cI cB cS cJ) (fun U h => (E.2 U h).1) (by decide) rfl rfl (Nat.le_of_ble_eq_true rfl) ?_
  intro p e s m below meth c A ls hx hb hr hml hts hown hlk hKs hK hP hD hA hS hl
  have hl : lv_has ls 4 [(0, .ref (am 0)), (1, .int x1), (2, .int x2)] := hl
  have hX : CallFix p m c cX4_item 4 s _ wsX4_item RX4 := ⟨hx, hb, hml, hown, hts⟩
  have hinX4 : ∀ w ∈ wsX40, w ∈ wsX4_item := fun w h => List.mem_cons_of_mem _ (List.mem_append_right _ h)
  have q1 := hts (.fieldLink RX4 7 "LabelStationModel" "now" "[I") (List.mem_of_getElem? (i := 1) rfl)
  generalize hR : fx4_item M x1 x2 = R
  rw [fx4_item] at hR
  rw [sx4_item] at hF
  refine lv_aload_n hx hb dX4_item_0 rfl (lv_at hl 0 rfl) ?_
  refine lv_iload_n hx hb dX4_item_1 rfl (lv_at hl 1 rfl) ?_
  obtain ⟨hs13, hF⟩ := hF
  refine kcI (ci := 4) (q0 := 0) (As := [.int x1]) (rest := []) E.1 (cx4_itemOf E am (M.1 4 0) (M.1 4 1) (M.1 4 2) M.2 (M.1 0) x1 hs13) hX (cwV 1 hts gX4_item_X4_itemOf rfl rfl rfl hdX4_itemOf ⟨Nat.le_of_ble_eq_true rfl, Nat.le_of_ble_eq_true rfl⟩) hKs hK hP hD hS hA _ _ (md_mn cI am M) (md_mn cI am M).symm rfl rfl rfl rfl hl.1 (Nat.le_of_ble_eq_true rfl) dX4_item_2 ⟨Nat.zero_le _, Nat.zero_le _⟩ (fun H locs hP hD hS => ?_)
  generalize ev1 : fx4_itemOf (M.1 0) x1 = v1 at hR hF ⊢
  replace hR := bnd_e hR
  replace hF := bnd_p hF
  refine lv_istore_n (lv' := [(3, .int v1), (0, .ref (am 0)), (1, .int x1), (2, .int x2)]) hx hb dX4_item_5 rfl hl (by decide) rfl (fun ls hl => ?_)
  refine lv_aload_n hx hb dX4_item_6 rfl (lv_at hl 1 rfl) ?_
  refine lv_iload_n hx hb dX4_item_7 rfl (lv_at hl 0 rfl) ?_
  refine lv_iconst (v := (-1)) hx hb dX4_item_8 (by decide) ?_
  refine lv_icmp_ne (tgt := 16) hx hb dX4_item_9 (by decide) (fun c2 => ?_) (fun c2 => ?_)
  · rw [if_neg c2] at hR hF
    refine lv_iload_n hx hb dX4_item_16 rfl (lv_at hl 3 rfl) ?_
    refine lv_iconst (v := 0) hx hb dX4_item_17 (by decide) ?_
    refine lv_iconst (v := 2) hx hb dX4_item_18 (by decide) ?_
    refine kcsI (As := [.int x2, .int 0, .int 2]) (rest := [.ref (am 0)]) E.1 (cx4_within E x2 0 2) hX (va_cwS 3 hts gX4_item_X4_within rfl rfl rfl hdX4_within.2 ⟨Nat.le_of_ble_eq_true rfl, Nat.le_of_ble_eq_true rfl⟩) hKs hP hD hS hA _ _ (kw_nil _) (kw_nil _).symm rfl rfl hl.1 (Nat.le_of_ble_eq_true rfl) dX4_item_19 ⟨Nat.zero_le _, Nat.zero_le _⟩ (fun H locs hP hD hS => ?_)
    refine lv_if_eq (tgt := 29) hx hb dX4_item_22 (by decide) (fun c6 => ?_) (fun c6 => ?_)
    · rw [if_pos c6] at hR hF
      refine lv_iconst (v := 2) hx hb dX4_item_29 (by decide) ?_
      refine kcI (ci := 4) (q0 := 0) (As := [.int 2]) (rest := []) E.1 (cx4_refused E am M 2) hX (cwV 1 hts gX4_item_X4_refused rfl rfl rfl hdX4_refused ⟨Nat.le_of_ble_eq_true rfl, Nat.le_of_ble_eq_true rfl⟩) hKs hK hP hD hS hA _ _ (kw_self _) (kw_self _).symm rfl rfl rfl rfl hl.1 (Nat.le_of_ble_eq_true rfl) dX4_item_30 ⟨Nat.zero_le _, Nat.zero_le _⟩ (fun H locs hP hD hS => ?_)
      have hP : va_P D vwCl (mdW cI am ((fx4_refused M 2).2)) H := hP
      have hD : va_D A (mdW cI am ((fx4_refused M 2).2)) := hD
      generalize eu7 : fx4_refused M 2 = u7 at hR hF hP hD ⊢
      replace hR := bnd_e hR
      replace hF := bnd_p hF
      refine lv_if_eq (tgt := 40) hx hb dX4_item_33 (by decide) (fun c8 => ?_) (fun c8 => ?_)
      · rw [if_pos c8] at hR hF
        refine lv_aload_n hx hb dX4_item_40 rfl (lv_at hl 1 rfl) ?_
        refine va_get (D := D) (ci := 4) (v := .ref (am 1)) (C := RX4) (T := TX4) (N := 8) hx hb hts hinX4 hown hK hP 0 rfl rfl 0 (by decide) q1 (fun _ h9 => h9) rfl dX4_item_41 ?_
        refine lv_iload_n hx hb dX4_item_44 rfl (lv_at hl 0 rfl) ?_
        refine lv_iconst (v := 1) hx hb dX4_item_45 (by decide) ?_
        refine lv_iload_n hx hb dX4_item_46 rfl (lv_at hl 3 rfl) ?_
        refine lv_iadd hx hb dX4_item_47 ?_
        refine kcsI (As := [.int v1, .int (1 + x2)]) (rest := [.ref (am 1)]) E.1 (cx4_thing E v1 (1 + x2)) hX (va_cwS 2 hts gX4_item_X4_thing rfl rfl rfl hdX4_thing.2 ⟨Nat.le_of_ble_eq_true rfl, Nat.le_of_ble_eq_true rfl⟩) hKs hP hD hS hA _ _ (kw_nil _) (kw_nil _).symm rfl rfl hl.1 (Nat.le_of_ble_eq_true rfl) dX4_item_48 ⟨Nat.zero_le _, Nat.zero_le _⟩ (fun H locs hP hD hS => ?_)
        have hi9 := hF
        refine va_iald hx hb hK hP 1 0 rfl rfl hi9 dX4_item_51 ?_
        subst hR
        exact krI hx hb hr hlk hP hD hS dX4_item_52 rfl rfl
      · rw [if_neg c8] at hR hF
        refine lv_iconst (v := 0) hx hb dX4_item_36 (by decide) ?_
        refine lv_goto (tgt := 52) hx hb dX4_item_37 (by decide) ?_
        subst hR
        exact krI hx hb hr hlk hP hD hS dX4_item_52 rfl rfl
    · rw [if_neg c6] at hR hF
      refine lv_iconst (v := 0) hx hb dX4_item_25 (by decide) ?_
      refine lv_goto (tgt := 30) hx hb dX4_item_26 (by decide) ?_
      refine kcI (ci := 4) (q0 := 0) (As := [.int 0]) (rest := []) E.1 (cx4_refused E am M 0) hX (cwV 1 hts gX4_item_X4_refused rfl rfl rfl hdX4_refused ⟨Nat.le_of_ble_eq_true rfl, Nat.le_of_ble_eq_true rfl⟩) hKs hK hP hD hS hA _ _ (kw_self _) (kw_self _).symm rfl rfl rfl rfl hl.1 (Nat.le_of_ble_eq_true rfl) dX4_item_30 ⟨Nat.zero_le _, Nat.zero_le _⟩ (fun H locs hP hD hS => ?_)
      have hP : va_P D vwCl (mdW cI am ((fx4_refused M 0).2)) H := hP
      have hD : va_D A (mdW cI am ((fx4_refused M 0).2)) := hD
      generalize eu10 : fx4_refused M 0 = u10 at hR hF hP hD ⊢
      replace hR := bnd_e hR
      replace hF := bnd_p hF
      refine lv_if_eq (tgt := 40) hx hb dX4_item_33 (by decide) (fun c11 => ?_) (fun c11 => ?_)
      · rw [if_pos c11] at hR hF
        refine lv_aload_n hx hb dX4_item_40 rfl (lv_at hl 1 rfl) ?_
        refine va_get (D := D) (ci := 4) (v := .ref (am 1)) (C := RX4) (T := TX4) (N := 8) hx hb hts hinX4 hown hK hP 0 rfl rfl 0 (by decide) q1 (fun _ h9 => h9) rfl dX4_item_41 ?_
        refine lv_iload_n hx hb dX4_item_44 rfl (lv_at hl 0 rfl) ?_
        refine lv_iconst (v := 1) hx hb dX4_item_45 (by decide) ?_
        refine lv_iload_n hx hb dX4_item_46 rfl (lv_at hl 3 rfl) ?_
        refine lv_iadd hx hb dX4_item_47 ?_
        refine kcsI (As := [.int v1, .int (1 + x2)]) (rest := [.ref (am 1)]) E.1 (cx4_thing E v1 (1 + x2)) hX (va_cwS 2 hts gX4_item_X4_thing rfl rfl rfl hdX4_thing.2 ⟨Nat.le_of_ble_eq_true rfl, Nat.le_of_ble_eq_true rfl⟩) hKs hP hD hS hA _ _ (kw_nil _) (kw_nil _).symm rfl rfl hl.1 (Nat.le_of_ble_eq_true rfl) dX4_item_48 ⟨Nat.zero_le _, Nat.zero_le _⟩ (fun H locs hP hD hS => ?_)
        have hi12 := hF
        refine va_iald hx hb hK hP 1 0 rfl rfl hi12 dX4_item_51 ?_
        subst hR
        exact krI hx hb hr hlk hP hD hS dX4_item_52 rfl rfl
      · rw [if_neg c11] at hR hF
        refine lv_iconst (v := 0) hx hb dX4_item_36 (by decide) ?_
        refine lv_goto (tgt := 52) hx hb dX4_item_37 (by decide) ?_
        subst hR
        exact krI hx hb hr hlk hP hD hS dX4_item_52 rfl rfl
  · rw [if_pos c2] at hR hF
    refine lv_iconst (v := 1) hx hb dX4_item_12 (by decide) ?_
    refine lv_goto (tgt := 30) hx hb dX4_item_13 (by decide) ?_
    refine kcI (ci := 4) (q0 := 0) (As := [.int 1]) (rest := []) E.1 (cx4_refused E am M 1) hX (cwV 1 hts gX4_item_X4_refused rfl rfl rfl hdX4_refused ⟨Nat.le_of_ble_eq_true rfl, Nat.le_of_ble_eq_true rfl⟩) hKs hK hP hD hS hA _ _ (kw_self _) (kw_self _).symm rfl rfl rfl rfl hl.1 (Nat.le_of_ble_eq_true rfl) dX4_item_30 ⟨Nat.zero_le _, Nat.zero_le _⟩ (fun H locs hP hD hS => ?_)
    have hP : va_P D vwCl (mdW cI am ((fx4_refused M 1).2)) H := hP
    have hD : va_D A (mdW cI am ((fx4_refused M 1).2)) := hD
    generalize eu3 : fx4_refused M 1 = u3 at hR hF hP hD ⊢
    replace hR := bnd_e hR
    replace hF := bnd_p hF
    refine lv_if_eq (tgt := 40) hx hb dX4_item_33 (by decide) (fun c4 => ?_) (fun c4 => ?_)
    · rw [if_pos c4] at hR hF
      refine lv_aload_n hx hb dX4_item_40 rfl (lv_at hl 1 rfl) ?_
      refine va_get (D := D) (ci := 4) (v := .ref (am 1)) (C := RX4) (T := TX4) (N := 8) hx hb hts hinX4 hown hK hP 0 rfl rfl 0 (by decide) q1 (fun _ h9 => h9) rfl dX4_item_41 ?_
      refine lv_iload_n hx hb dX4_item_44 rfl (lv_at hl 0 rfl) ?_
      refine lv_iconst (v := 1) hx hb dX4_item_45 (by decide) ?_
      refine lv_iload_n hx hb dX4_item_46 rfl (lv_at hl 3 rfl) ?_
      refine lv_iadd hx hb dX4_item_47 ?_
      refine kcsI (As := [.int v1, .int (1 + x2)]) (rest := [.ref (am 1)]) E.1 (cx4_thing E v1 (1 + x2)) hX (va_cwS 2 hts gX4_item_X4_thing rfl rfl rfl hdX4_thing.2 ⟨Nat.le_of_ble_eq_true rfl, Nat.le_of_ble_eq_true rfl⟩) hKs hP hD hS hA _ _ (kw_nil _) (kw_nil _).symm rfl rfl hl.1 (Nat.le_of_ble_eq_true rfl) dX4_item_48 ⟨Nat.zero_le _, Nat.zero_le _⟩ (fun H locs hP hD hS => ?_)
      have hi5 := hF
      refine va_iald hx hb hK hP 1 0 rfl rfl hi5 dX4_item_51 ?_
      subst hR
      exact krI hx hb hr hlk hP hD hS dX4_item_52 rfl rfl
    · rw [if_neg c4] at hR hF
      refine lv_iconst (v := 0) hx hb dX4_item_36 (by decide) ?_
      refine lv_goto (tgt := 52) hx hb dX4_item_37 (by decide) ?_
      subst hR
      exact krI hx hb hr hlk hP hD hS dX4_item_52 rfl rfl

theorem hdX4_record : yX4_record.cls = RX4 ∧ yX4_record.cls ≠ "java/lang/invoke/MethodHandle" ∧ yX4_record.cls ≠ "java/lang/invoke/VarHandle" ∧ (parseMethodDescriptor yX4_record.desc).map (fun d => d.parameters.length) = some 2 := by decide +kernel
def fx4_record (M : Md) (x1 : Int32) (x2 : Int32) : Int32 × (Md) := (bnd (fx4_recordOf (M.1 0) x1) (fun v1 => (if v1 = (-1) then (bnd (fx4_refused M 1) (fun u3 => (if u3.1 = 0 then ((u3.2.1 0) (fx4_entry v1 (1 + x2)).toNatClampNeg, u3.2) else (0, u3.2)))) else (if (fx4_within x2 0 4) = 0 then (bnd (fx4_refused M 2) (fun u7 => (if u7.1 = 0 then ((u7.2.1 0) (fx4_entry v1 (1 + x2)).toNatClampNeg, u7.2) else (0, u7.2)))) else (bnd (fx4_refused M 0) (fun u10 => (if u10.1 = 0 then ((u10.2.1 0) (fx4_entry v1 (1 + x2)).toNatClampNeg, u10.2) else (0, u10.2))))))))
def sx4_record (M : Md) (x1 : Int32) (x2 : Int32) : Prop := (sx4_recordOf (M.1 0) x1 ∧ (bnd (fx4_recordOf (M.1 0) x1) (fun v1 => (if v1 = (-1) then (bnd (fx4_refused M 1) (fun u3 => (if u3.1 = 0 then vp_in (fx4_entry v1 (1 + x2)) 1203 else True))) else (if (fx4_within x2 0 4) = 0 then (bnd (fx4_refused M 2) (fun u7 => (if u7.1 = 0 then vp_in (fx4_entry v1 (1 + x2)) 1203 else True))) else (bnd (fx4_refused M 0) (fun u10 => (if u10.1 = 0 then vp_in (fx4_entry v1 (1 + x2)) 1203 else True))))))))
set_option maxHeartbeats 4000000 in
set_option maxRecDepth 100000 in
theorem cx4_record {l : Launch} {D : va_G} {cI cB cS cJ : ClassId} {K : State → Prop} (E : kE D cI cB cS cJ K) (am : Nat → Nat) (M : Md) (x1 : Int32) (x2 : Int32) (hF : sx4_record M x1 x2) : kI l D K yX4_record wsX4_record 2 44 [.ref (am 0), .int x1, .int x2] (mdW cI am M) (fx4_record M x1 x2).1 (mdW cI am ((fx4_record M x1 x2).2)) := by
  refine kI_of (own := RX4) (cc := cX4_record) (maxL := 4) (tys := kty cI cB cS cJ) (fun U h => (E.2 U h).1) (by decide) rfl rfl (Nat.le_of_ble_eq_true rfl) ?_
  intro p e s m below meth c A ls hx hb hr hml hts hown hlk hKs hK hP hD hA hS hl
  have hl : lv_has ls 4 [(0, .ref (am 0)), (1, .int x1), (2, .int x2)] := hl
  have hX : CallFix p m c cX4_record 4 s _ wsX4_record RX4 := ⟨hx, hb, hml, hown, hts⟩
  have hinX4 : ∀ w ∈ wsX40, w ∈ wsX4_record := fun w h => List.mem_cons_of_mem _ (List.mem_append_right _ h)
  have q1 := hts (.fieldLink RX4 7 "LabelStationModel" "now" "[I") (List.mem_of_getElem? (i := 1) rfl)
  generalize hR : fx4_record M x1 x2 = R
  rw [fx4_record] at hR
  rw [sx4_record] at hF
  refine lv_aload_n hx hb dX4_record_0 rfl (lv_at hl 0 rfl) ?_
  refine lv_iload_n hx hb dX4_record_1 rfl (lv_at hl 1 rfl) ?_
  obtain ⟨hs13, hF⟩ := hF
  refine kcI (ci := 4) (q0 := 0) (As := [.int x1]) (rest := []) E.1 (cx4_recordOf E am (M.1 4 0) (M.1 4 1) (M.1 4 2) M.2 (M.1 0) x1 hs13) hX (cwV 1 hts gX4_record_X4_recordOf rfl rfl rfl hdX4_recordOf ⟨Nat.le_of_ble_eq_true rfl, Nat.le_of_ble_eq_true rfl⟩) hKs hK hP hD hS hA _ _ (md_mn cI am M) (md_mn cI am M).symm rfl rfl rfl rfl hl.1 (Nat.le_of_ble_eq_true rfl) dX4_record_2 ⟨Nat.zero_le _, Nat.zero_le _⟩ (fun H locs hP hD hS => ?_)
  generalize ev1 : fx4_recordOf (M.1 0) x1 = v1 at hR hF ⊢
  replace hR := bnd_e hR
  replace hF := bnd_p hF
  refine lv_istore_n (lv' := [(3, .int v1), (0, .ref (am 0)), (1, .int x1), (2, .int x2)]) hx hb dX4_record_5 rfl hl (by decide) rfl (fun ls hl => ?_)
  refine lv_aload_n hx hb dX4_record_6 rfl (lv_at hl 1 rfl) ?_
  refine lv_iload_n hx hb dX4_record_7 rfl (lv_at hl 0 rfl) ?_
  refine lv_iconst (v := (-1)) hx hb dX4_record_8 (by decide) ?_
  refine lv_icmp_ne (tgt := 16) hx hb dX4_record_9 (by decide) (fun c2 => ?_) (fun c2 => ?_)
  · rw [if_neg c2] at hR hF
    refine lv_iload_n hx hb dX4_record_16 rfl (lv_at hl 3 rfl) ?_
    refine lv_iconst (v := 0) hx hb dX4_record_17 (by decide) ?_
    refine lv_iconst (v := 4) hx hb dX4_record_18 (by decide) ?_
    refine kcsI (As := [.int x2, .int 0, .int 4]) (rest := [.ref (am 0)]) E.1 (cx4_within E x2 0 4) hX (va_cwS 3 hts gX4_record_X4_within rfl rfl rfl hdX4_within.2 ⟨Nat.le_of_ble_eq_true rfl, Nat.le_of_ble_eq_true rfl⟩) hKs hP hD hS hA _ _ (kw_nil _) (kw_nil _).symm rfl rfl hl.1 (Nat.le_of_ble_eq_true rfl) dX4_record_19 ⟨Nat.zero_le _, Nat.zero_le _⟩ (fun H locs hP hD hS => ?_)
    refine lv_if_eq (tgt := 29) hx hb dX4_record_22 (by decide) (fun c6 => ?_) (fun c6 => ?_)
    · rw [if_pos c6] at hR hF
      refine lv_iconst (v := 2) hx hb dX4_record_29 (by decide) ?_
      refine kcI (ci := 4) (q0 := 0) (As := [.int 2]) (rest := []) E.1 (cx4_refused E am M 2) hX (cwV 1 hts gX4_record_X4_refused rfl rfl rfl hdX4_refused ⟨Nat.le_of_ble_eq_true rfl, Nat.le_of_ble_eq_true rfl⟩) hKs hK hP hD hS hA _ _ (kw_self _) (kw_self _).symm rfl rfl rfl rfl hl.1 (Nat.le_of_ble_eq_true rfl) dX4_record_30 ⟨Nat.zero_le _, Nat.zero_le _⟩ (fun H locs hP hD hS => ?_)
      have hP : va_P D vwCl (mdW cI am ((fx4_refused M 2).2)) H := hP
      have hD : va_D A (mdW cI am ((fx4_refused M 2).2)) := hD
      generalize eu7 : fx4_refused M 2 = u7 at hR hF hP hD ⊢
      replace hR := bnd_e hR
      replace hF := bnd_p hF
      refine lv_if_eq (tgt := 40) hx hb dX4_record_33 (by decide) (fun c8 => ?_) (fun c8 => ?_)
      · rw [if_pos c8] at hR hF
        refine lv_aload_n hx hb dX4_record_40 rfl (lv_at hl 1 rfl) ?_
        refine va_get (D := D) (ci := 4) (v := .ref (am 1)) (C := RX4) (T := TX4) (N := 8) hx hb hts hinX4 hown hK hP 0 rfl rfl 0 (by decide) q1 (fun _ h9 => h9) rfl dX4_record_41 ?_
        refine lv_iload_n hx hb dX4_record_44 rfl (lv_at hl 0 rfl) ?_
        refine lv_iconst (v := 1) hx hb dX4_record_45 (by decide) ?_
        refine lv_iload_n hx hb dX4_record_46 rfl (lv_at hl 3 rfl) ?_
        refine lv_iadd hx hb dX4_record_47 ?_
        refine kcsI (As := [.int v1, .int (1 + x2)]) (rest := [.ref (am 1)]) E.1 (cx4_entry E v1 (1 + x2)) hX (va_cwS 2 hts gX4_record_X4_entry rfl rfl rfl hdX4_entry.2 ⟨Nat.le_of_ble_eq_true rfl, Nat.le_of_ble_eq_true rfl⟩) hKs hP hD hS hA _ _ (kw_nil _) (kw_nil _).symm rfl rfl hl.1 (Nat.le_of_ble_eq_true rfl) dX4_record_48 ⟨Nat.zero_le _, Nat.zero_le _⟩ (fun H locs hP hD hS => ?_)
        have hi9 := hF
        refine va_iald hx hb hK hP 1 0 rfl rfl hi9 dX4_record_51 ?_
        subst hR
        exact krI hx hb hr hlk hP hD hS dX4_record_52 rfl rfl
      · rw [if_neg c8] at hR hF
        refine lv_iconst (v := 0) hx hb dX4_record_36 (by decide) ?_
        refine lv_goto (tgt := 52) hx hb dX4_record_37 (by decide) ?_
        subst hR
        exact krI hx hb hr hlk hP hD hS dX4_record_52 rfl rfl
    · rw [if_neg c6] at hR hF
      refine lv_iconst (v := 0) hx hb dX4_record_25 (by decide) ?_
      refine lv_goto (tgt := 30) hx hb dX4_record_26 (by decide) ?_
      refine kcI (ci := 4) (q0 := 0) (As := [.int 0]) (rest := []) E.1 (cx4_refused E am M 0) hX (cwV 1 hts gX4_record_X4_refused rfl rfl rfl hdX4_refused ⟨Nat.le_of_ble_eq_true rfl, Nat.le_of_ble_eq_true rfl⟩) hKs hK hP hD hS hA _ _ (kw_self _) (kw_self _).symm rfl rfl rfl rfl hl.1 (Nat.le_of_ble_eq_true rfl) dX4_record_30 ⟨Nat.zero_le _, Nat.zero_le _⟩ (fun H locs hP hD hS => ?_)
      have hP : va_P D vwCl (mdW cI am ((fx4_refused M 0).2)) H := hP
      have hD : va_D A (mdW cI am ((fx4_refused M 0).2)) := hD
      generalize eu10 : fx4_refused M 0 = u10 at hR hF hP hD ⊢
      replace hR := bnd_e hR
      replace hF := bnd_p hF
      refine lv_if_eq (tgt := 40) hx hb dX4_record_33 (by decide) (fun c11 => ?_) (fun c11 => ?_)
      · rw [if_pos c11] at hR hF
        refine lv_aload_n hx hb dX4_record_40 rfl (lv_at hl 1 rfl) ?_
        refine va_get (D := D) (ci := 4) (v := .ref (am 1)) (C := RX4) (T := TX4) (N := 8) hx hb hts hinX4 hown hK hP 0 rfl rfl 0 (by decide) q1 (fun _ h9 => h9) rfl dX4_record_41 ?_
        refine lv_iload_n hx hb dX4_record_44 rfl (lv_at hl 0 rfl) ?_
        refine lv_iconst (v := 1) hx hb dX4_record_45 (by decide) ?_
        refine lv_iload_n hx hb dX4_record_46 rfl (lv_at hl 3 rfl) ?_
        refine lv_iadd hx hb dX4_record_47 ?_
        refine kcsI (As := [.int v1, .int (1 + x2)]) (rest := [.ref (am 1)]) E.1 (cx4_entry E v1 (1 + x2)) hX (va_cwS 2 hts gX4_record_X4_entry rfl rfl rfl hdX4_entry.2 ⟨Nat.le_of_ble_eq_true rfl, Nat.le_of_ble_eq_true rfl⟩) hKs hP hD hS hA _ _ (kw_nil _) (kw_nil _).symm rfl rfl hl.1 (Nat.le_of_ble_eq_true rfl) dX4_record_48 ⟨Nat.zero_le _, Nat.zero_le _⟩ (fun H locs hP hD hS => ?_)
        have hi12 := hF
        refine va_iald hx hb hK hP 1 0 rfl rfl hi12 dX4_record_51 ?_
        subst hR
        exact krI hx hb hr hlk hP hD hS dX4_record_52 rfl rfl
      · rw [if_neg c11] at hR hF
        refine lv_iconst (v := 0) hx hb dX4_record_36 (by decide) ?_
        refine lv_goto (tgt := 52) hx hb dX4_record_37 (by decide) ?_
        subst hR
        exact krI hx hb hr hlk hP hD hS dX4_record_52 rfl rfl
  · rw [if_pos c2] at hR hF
    refine lv_iconst (v := 1) hx hb dX4_record_12 (by decide) ?_
    refine lv_goto (tgt := 30) hx hb dX4_record_13 (by decide) ?_
    refine kcI (ci := 4) (q0 := 0) (As := [.int 1]) (rest := []) E.1 (cx4_refused E am M 1) hX (cwV 1 hts gX4_record_X4_refused rfl rfl rfl hdX4_refused ⟨Nat.le_of_ble_eq_true rfl, Nat.le_of_ble_eq_true rfl⟩) hKs hK hP hD hS hA _ _ (kw_self _) (kw_self _).symm rfl rfl rfl rfl hl.1 (Nat.le_of_ble_eq_true rfl) dX4_record_30 ⟨Nat.zero_le _, Nat.zero_le _⟩ (fun H locs hP hD hS => ?_)
    have hP : va_P D vwCl (mdW cI am ((fx4_refused M 1).2)) H := hP
    have hD : va_D A (mdW cI am ((fx4_refused M 1).2)) := hD
    generalize eu3 : fx4_refused M 1 = u3 at hR hF hP hD ⊢
    replace hR := bnd_e hR
    replace hF := bnd_p hF
    refine lv_if_eq (tgt := 40) hx hb dX4_record_33 (by decide) (fun c4 => ?_) (fun c4 => ?_)
    · rw [if_pos c4] at hR hF
      refine lv_aload_n hx hb dX4_record_40 rfl (lv_at hl 1 rfl) ?_
      refine va_get (D := D) (ci := 4) (v := .ref (am 1)) (C := RX4) (T := TX4) (N := 8) hx hb hts hinX4 hown hK hP 0 rfl rfl 0 (by decide) q1 (fun _ h9 => h9) rfl dX4_record_41 ?_
      refine lv_iload_n hx hb dX4_record_44 rfl (lv_at hl 0 rfl) ?_
      refine lv_iconst (v := 1) hx hb dX4_record_45 (by decide) ?_
      refine lv_iload_n hx hb dX4_record_46 rfl (lv_at hl 3 rfl) ?_
      refine lv_iadd hx hb dX4_record_47 ?_
      refine kcsI (As := [.int v1, .int (1 + x2)]) (rest := [.ref (am 1)]) E.1 (cx4_entry E v1 (1 + x2)) hX (va_cwS 2 hts gX4_record_X4_entry rfl rfl rfl hdX4_entry.2 ⟨Nat.le_of_ble_eq_true rfl, Nat.le_of_ble_eq_true rfl⟩) hKs hP hD hS hA _ _ (kw_nil _) (kw_nil _).symm rfl rfl hl.1 (Nat.le_of_ble_eq_true rfl) dX4_record_48 ⟨Nat.zero_le _, Nat.zero_le _⟩ (fun H locs hP hD hS => ?_)
      have hi5 := hF
      refine va_iald hx hb hK hP 1 0 rfl rfl hi5 dX4_record_51 ?_
      subst hR
      exact krI hx hb hr hlk hP hD hS dX4_record_52 rfl rfl
    · rw [if_neg c4] at hR hF
      refine lv_iconst (v := 0) hx hb dX4_record_36 (by decide) ?_
      refine lv_goto (tgt := 52) hx hb dX4_record_37 (by decide) ?_
      subst hR
      exact krI hx hb hr hlk hP hD hS dX4_record_52 rfl rfl

theorem hdX4_numberAt : yX4_numberAt.cls = RX4 ∧ yX4_numberAt.cls ≠ "java/lang/invoke/MethodHandle" ∧ yX4_numberAt.cls ≠ "java/lang/invoke/VarHandle" ∧ (parseMethodDescriptor yX4_numberAt.desc).map (fun d => d.parameters.length) = some 2 := by decide +kernel
def fx4_numberAt (M : Md) (x1 : Int32) (x2 : Int32) : Int32 × (Md) := (if x2 = 0 then (if (fx4_within x1 0 (((M.1 0) 36) - 1)) = 0 then (bnd (fx4_refused M 1) (fun u3 => (if u3.1 = 0 then ((u3.2.1 0) (fx4_thing x1 0).toNatClampNeg, u3.2) else (0, u3.2)))) else (bnd (fx4_refused M 0) (fun u6 => (if u6.1 = 0 then ((u6.2.1 0) (fx4_thing x1 0).toNatClampNeg, u6.2) else (0, u6.2))))) else (if (fx4_within x1 0 (((M.1 0) 117) - 1)) = 0 then (bnd (fx4_refused M 1) (fun u10 => (if u10.1 = 0 then ((u10.2.1 0) (fx4_entry x1 0).toNatClampNeg, u10.2) else (0, u10.2)))) else (bnd (fx4_refused M 0) (fun u13 => (if u13.1 = 0 then ((u13.2.1 0) (fx4_entry x1 0).toNatClampNeg, u13.2) else (0, u13.2))))))
def sx4_numberAt (M : Md) (x1 : Int32) (x2 : Int32) : Prop := (if x2 = 0 then (if (fx4_within x1 0 (((M.1 0) 36) - 1)) = 0 then (bnd (fx4_refused M 1) (fun u3 => (if u3.1 = 0 then vp_in (fx4_thing x1 0) 1203 else True))) else (bnd (fx4_refused M 0) (fun u6 => (if u6.1 = 0 then vp_in (fx4_thing x1 0) 1203 else True)))) else (if (fx4_within x1 0 (((M.1 0) 117) - 1)) = 0 then (bnd (fx4_refused M 1) (fun u10 => (if u10.1 = 0 then vp_in (fx4_entry x1 0) 1203 else True))) else (bnd (fx4_refused M 0) (fun u13 => (if u13.1 = 0 then vp_in (fx4_entry x1 0) 1203 else True)))))
set_option maxHeartbeats 4000000 in
set_option maxRecDepth 100000 in
theorem cx4_numberAt {l : Launch} {D : va_G} {cI cB cS cJ : ClassId} {K : State → Prop} (E : kE D cI cB cS cJ K) (am : Nat → Nat) (M : Md) (x1 : Int32) (x2 : Int32) (hF : sx4_numberAt M x1 x2) : kI l D K yX4_numberAt wsX4_numberAt 1 22 [.ref (am 0), .int x1, .int x2] (mdW cI am M) (fx4_numberAt M x1 x2).1 (mdW cI am ((fx4_numberAt M x1 x2).2)) := by
  refine kI_of (own := RX4) (cc := cX4_numberAt) (maxL := 4) (tys := kty cI cB cS cJ) (fun U h => (E.2 U h).1) (by decide) rfl rfl (Nat.le_of_ble_eq_true rfl) ?_
  intro p e s m below meth c A ls hx hb hr hml hts hown hlk hKs hK hP hD hA hS hl
  have hl : lv_has ls 4 [(0, .ref (am 0)), (1, .int x1), (2, .int x2)] := hl
  have hX : CallFix p m c cX4_numberAt 4 s _ wsX4_numberAt RX4 := ⟨hx, hb, hml, hown, hts⟩
  have hinX4 : ∀ w ∈ wsX40, w ∈ wsX4_numberAt := fun w h => List.mem_cons_of_mem _ (List.mem_append_right _ h)
  have q1 := hts (.fieldLink RX4 7 "LabelStationModel" "now" "[I") (List.mem_of_getElem? (i := 1) rfl)
  generalize hR : fx4_numberAt M x1 x2 = R
  rw [fx4_numberAt] at hR
  rw [sx4_numberAt] at hF
  refine lv_aload_n hx hb dX4_numberAt_0 rfl (lv_at hl 0 rfl) ?_
  refine va_get (D := D) (ci := 4) (v := .ref (am 1)) (C := RX4) (T := TX4) (N := 8) hx hb hts hinX4 hown hK hP 0 rfl rfl 0 (by decide) q1 (fun _ h9 => h9) rfl dX4_numberAt_1 ?_
  refine lv_iload_n hx hb dX4_numberAt_4 rfl (lv_at hl 2 rfl) ?_
  refine lv_if_eq (tgt := 13) hx hb dX4_numberAt_5 (by decide) (fun c1 => ?_) (fun c1 => ?_)
  · rw [if_pos c1] at hR hF
    refine lv_bipush (v := 36) hx hb dX4_numberAt_13 (by decide) ?_
    refine va_iald hx hb hK hP 1 0 rfl rfl (kin_lit (j := 36) (n := 1203) (by decide) (by decide)) dX4_numberAt_15 ?_
    refine kw_top (v := .int ((M.1 0) 36)) rfl ?_
    refine lv_istore_n (lv' := [(3, .int ((M.1 0) 36)), (0, .ref (am 0)), (1, .int x1), (2, .int x2)]) hx hb dX4_numberAt_16 rfl hl (by decide) rfl (fun ls hl => ?_)
    refine lv_aload_n hx hb dX4_numberAt_17 rfl (lv_at hl 1 rfl) ?_
    refine lv_iload_n hx hb dX4_numberAt_18 rfl (lv_at hl 2 rfl) ?_
    refine lv_iconst (v := 0) hx hb dX4_numberAt_19 (by decide) ?_
    refine lv_iload_n hx hb dX4_numberAt_20 rfl (lv_at hl 0 rfl) ?_
    refine lv_iconst (v := 1) hx hb dX4_numberAt_21 (by decide) ?_
    refine lv_isub hx hb dX4_numberAt_22 ?_
    refine kcsI (As := [.int x1, .int 0, .int (((M.1 0) 36) - 1)]) (rest := [.ref (am 0)]) E.1 (cx4_within E x1 0 (((M.1 0) 36) - 1)) hX (va_cwS 3 hts gX4_numberAt_X4_within rfl rfl rfl hdX4_within.2 ⟨Nat.le_of_ble_eq_true rfl, Nat.le_of_ble_eq_true rfl⟩) hKs hP hD hS hA _ _ (kw_nil _) (kw_nil _).symm rfl rfl hl.1 (Nat.le_of_ble_eq_true rfl) dX4_numberAt_23 ⟨Nat.zero_le _, Nat.zero_le _⟩ (fun H locs hP hD hS => ?_)
    refine lv_if_eq (tgt := 33) hx hb dX4_numberAt_26 (by decide) (fun c2 => ?_) (fun c2 => ?_)
    · rw [if_pos c2] at hR hF
      refine lv_iconst (v := 1) hx hb dX4_numberAt_33 (by decide) ?_
      refine kcI (ci := 4) (q0 := 0) (As := [.int 1]) (rest := []) E.1 (cx4_refused E am M 1) hX (cwV 1 hts gX4_numberAt_X4_refused rfl rfl rfl hdX4_refused ⟨Nat.le_of_ble_eq_true rfl, Nat.le_of_ble_eq_true rfl⟩) hKs hK hP hD hS hA _ _ (kw_self _) (kw_self _).symm rfl rfl rfl rfl hl.1 (Nat.le_of_ble_eq_true rfl) dX4_numberAt_34 ⟨Nat.zero_le _, Nat.zero_le _⟩ (fun H locs hP hD hS => ?_)
      have hP : va_P D vwCl (mdW cI am ((fx4_refused M 1).2)) H := hP
      have hD : va_D A (mdW cI am ((fx4_refused M 1).2)) := hD
      generalize eu3 : fx4_refused M 1 = u3 at hR hF hP hD ⊢
      replace hR := bnd_e hR
      replace hF := bnd_p hF
      refine lv_if_eq (tgt := 44) hx hb dX4_numberAt_37 (by decide) (fun c4 => ?_) (fun c4 => ?_)
      · rw [if_pos c4] at hR hF
        refine lv_aload_n hx hb dX4_numberAt_44 rfl (lv_at hl 1 rfl) ?_
        refine va_get (D := D) (ci := 4) (v := .ref (am 1)) (C := RX4) (T := TX4) (N := 8) hx hb hts hinX4 hown hK hP 0 rfl rfl 0 (by decide) q1 (fun _ h9 => h9) rfl dX4_numberAt_45 ?_
        refine lv_iload_n hx hb dX4_numberAt_48 rfl (lv_at hl 3 rfl) ?_
        refine lv_if_eq (tgt := 60) hx hb dX4_numberAt_49 (by decide) (fun _ => ?_) (fun c => absurd c1 c)
        refine lv_iload_n hx hb dX4_numberAt_60 rfl (lv_at hl 2 rfl) ?_
        refine lv_iconst (v := 0) hx hb dX4_numberAt_61 (by decide) ?_
        refine kcsI (As := [.int x1, .int 0]) (rest := [.ref (am 1)]) E.1 (cx4_thing E x1 0) hX (va_cwS 2 hts gX4_numberAt_X4_thing rfl rfl rfl hdX4_thing.2 ⟨Nat.le_of_ble_eq_true rfl, Nat.le_of_ble_eq_true rfl⟩) hKs hP hD hS hA _ _ (kw_nil _) (kw_nil _).symm rfl rfl hl.1 (Nat.le_of_ble_eq_true rfl) dX4_numberAt_62 ⟨Nat.zero_le _, Nat.zero_le _⟩ (fun H locs hP hD hS => ?_)
        have hi5 := hF
        refine va_iald hx hb hK hP 1 0 rfl rfl hi5 dX4_numberAt_65 ?_
        subst hR
        exact krI hx hb hr hlk hP hD hS dX4_numberAt_66 rfl rfl
      · rw [if_neg c4] at hR hF
        refine lv_iconst (v := 0) hx hb dX4_numberAt_40 (by decide) ?_
        refine lv_goto (tgt := 66) hx hb dX4_numberAt_41 (by decide) ?_
        subst hR
        exact krI hx hb hr hlk hP hD hS dX4_numberAt_66 rfl rfl
    · rw [if_neg c2] at hR hF
      refine lv_iconst (v := 0) hx hb dX4_numberAt_29 (by decide) ?_
      refine lv_goto (tgt := 34) hx hb dX4_numberAt_30 (by decide) ?_
      refine kcI (ci := 4) (q0 := 0) (As := [.int 0]) (rest := []) E.1 (cx4_refused E am M 0) hX (cwV 1 hts gX4_numberAt_X4_refused rfl rfl rfl hdX4_refused ⟨Nat.le_of_ble_eq_true rfl, Nat.le_of_ble_eq_true rfl⟩) hKs hK hP hD hS hA _ _ (kw_self _) (kw_self _).symm rfl rfl rfl rfl hl.1 (Nat.le_of_ble_eq_true rfl) dX4_numberAt_34 ⟨Nat.zero_le _, Nat.zero_le _⟩ (fun H locs hP hD hS => ?_)
      have hP : va_P D vwCl (mdW cI am ((fx4_refused M 0).2)) H := hP
      have hD : va_D A (mdW cI am ((fx4_refused M 0).2)) := hD
      generalize eu6 : fx4_refused M 0 = u6 at hR hF hP hD ⊢
      replace hR := bnd_e hR
      replace hF := bnd_p hF
      refine lv_if_eq (tgt := 44) hx hb dX4_numberAt_37 (by decide) (fun c7 => ?_) (fun c7 => ?_)
      · rw [if_pos c7] at hR hF
        refine lv_aload_n hx hb dX4_numberAt_44 rfl (lv_at hl 1 rfl) ?_
        refine va_get (D := D) (ci := 4) (v := .ref (am 1)) (C := RX4) (T := TX4) (N := 8) hx hb hts hinX4 hown hK hP 0 rfl rfl 0 (by decide) q1 (fun _ h9 => h9) rfl dX4_numberAt_45 ?_
        refine lv_iload_n hx hb dX4_numberAt_48 rfl (lv_at hl 3 rfl) ?_
        refine lv_if_eq (tgt := 60) hx hb dX4_numberAt_49 (by decide) (fun _ => ?_) (fun c => absurd c1 c)
        refine lv_iload_n hx hb dX4_numberAt_60 rfl (lv_at hl 2 rfl) ?_
        refine lv_iconst (v := 0) hx hb dX4_numberAt_61 (by decide) ?_
        refine kcsI (As := [.int x1, .int 0]) (rest := [.ref (am 1)]) E.1 (cx4_thing E x1 0) hX (va_cwS 2 hts gX4_numberAt_X4_thing rfl rfl rfl hdX4_thing.2 ⟨Nat.le_of_ble_eq_true rfl, Nat.le_of_ble_eq_true rfl⟩) hKs hP hD hS hA _ _ (kw_nil _) (kw_nil _).symm rfl rfl hl.1 (Nat.le_of_ble_eq_true rfl) dX4_numberAt_62 ⟨Nat.zero_le _, Nat.zero_le _⟩ (fun H locs hP hD hS => ?_)
        have hi8 := hF
        refine va_iald hx hb hK hP 1 0 rfl rfl hi8 dX4_numberAt_65 ?_
        subst hR
        exact krI hx hb hr hlk hP hD hS dX4_numberAt_66 rfl rfl
      · rw [if_neg c7] at hR hF
        refine lv_iconst (v := 0) hx hb dX4_numberAt_40 (by decide) ?_
        refine lv_goto (tgt := 66) hx hb dX4_numberAt_41 (by decide) ?_
        subst hR
        exact krI hx hb hr hlk hP hD hS dX4_numberAt_66 rfl rfl
  · rw [if_neg c1] at hR hF
    refine lv_bipush (v := 117) hx hb dX4_numberAt_8 (by decide) ?_
    refine lv_goto (tgt := 15) hx hb dX4_numberAt_10 (by decide) ?_
    refine va_iald hx hb hK hP 1 0 rfl rfl (kin_lit (j := 117) (n := 1203) (by decide) (by decide)) dX4_numberAt_15 ?_
    refine kw_top (v := .int ((M.1 0) 117)) rfl ?_
    refine lv_istore_n (lv' := [(3, .int ((M.1 0) 117)), (0, .ref (am 0)), (1, .int x1), (2, .int x2)]) hx hb dX4_numberAt_16 rfl hl (by decide) rfl (fun ls hl => ?_)
    refine lv_aload_n hx hb dX4_numberAt_17 rfl (lv_at hl 1 rfl) ?_
    refine lv_iload_n hx hb dX4_numberAt_18 rfl (lv_at hl 2 rfl) ?_
    refine lv_iconst (v := 0) hx hb dX4_numberAt_19 (by decide) ?_
    refine lv_iload_n hx hb dX4_numberAt_20 rfl (lv_at hl 0 rfl) ?_
    refine lv_iconst (v := 1) hx hb dX4_numberAt_21 (by decide) ?_
    refine lv_isub hx hb dX4_numberAt_22 ?_
    refine kcsI (As := [.int x1, .int 0, .int (((M.1 0) 117) - 1)]) (rest := [.ref (am 0)]) E.1 (cx4_within E x1 0 (((M.1 0) 117) - 1)) hX (va_cwS 3 hts gX4_numberAt_X4_within rfl rfl rfl hdX4_within.2 ⟨Nat.le_of_ble_eq_true rfl, Nat.le_of_ble_eq_true rfl⟩) hKs hP hD hS hA _ _ (kw_nil _) (kw_nil _).symm rfl rfl hl.1 (Nat.le_of_ble_eq_true rfl) dX4_numberAt_23 ⟨Nat.zero_le _, Nat.zero_le _⟩ (fun H locs hP hD hS => ?_)
    refine lv_if_eq (tgt := 33) hx hb dX4_numberAt_26 (by decide) (fun c9 => ?_) (fun c9 => ?_)
    · rw [if_pos c9] at hR hF
      refine lv_iconst (v := 1) hx hb dX4_numberAt_33 (by decide) ?_
      refine kcI (ci := 4) (q0 := 0) (As := [.int 1]) (rest := []) E.1 (cx4_refused E am M 1) hX (cwV 1 hts gX4_numberAt_X4_refused rfl rfl rfl hdX4_refused ⟨Nat.le_of_ble_eq_true rfl, Nat.le_of_ble_eq_true rfl⟩) hKs hK hP hD hS hA _ _ (kw_self _) (kw_self _).symm rfl rfl rfl rfl hl.1 (Nat.le_of_ble_eq_true rfl) dX4_numberAt_34 ⟨Nat.zero_le _, Nat.zero_le _⟩ (fun H locs hP hD hS => ?_)
      have hP : va_P D vwCl (mdW cI am ((fx4_refused M 1).2)) H := hP
      have hD : va_D A (mdW cI am ((fx4_refused M 1).2)) := hD
      generalize eu10 : fx4_refused M 1 = u10 at hR hF hP hD ⊢
      replace hR := bnd_e hR
      replace hF := bnd_p hF
      refine lv_if_eq (tgt := 44) hx hb dX4_numberAt_37 (by decide) (fun c11 => ?_) (fun c11 => ?_)
      · rw [if_pos c11] at hR hF
        refine lv_aload_n hx hb dX4_numberAt_44 rfl (lv_at hl 1 rfl) ?_
        refine va_get (D := D) (ci := 4) (v := .ref (am 1)) (C := RX4) (T := TX4) (N := 8) hx hb hts hinX4 hown hK hP 0 rfl rfl 0 (by decide) q1 (fun _ h9 => h9) rfl dX4_numberAt_45 ?_
        refine lv_iload_n hx hb dX4_numberAt_48 rfl (lv_at hl 3 rfl) ?_
        refine lv_if_eq (tgt := 60) hx hb dX4_numberAt_49 (by decide) (fun c => absurd c c1) (fun _ => ?_)
        refine lv_iload_n hx hb dX4_numberAt_52 rfl (lv_at hl 2 rfl) ?_
        refine lv_iconst (v := 0) hx hb dX4_numberAt_53 (by decide) ?_
        refine kcsI (As := [.int x1, .int 0]) (rest := [.ref (am 1)]) E.1 (cx4_entry E x1 0) hX (va_cwS 2 hts gX4_numberAt_X4_entry rfl rfl rfl hdX4_entry.2 ⟨Nat.le_of_ble_eq_true rfl, Nat.le_of_ble_eq_true rfl⟩) hKs hP hD hS hA _ _ (kw_nil _) (kw_nil _).symm rfl rfl hl.1 (Nat.le_of_ble_eq_true rfl) dX4_numberAt_54 ⟨Nat.zero_le _, Nat.zero_le _⟩ (fun H locs hP hD hS => ?_)
        refine lv_goto (tgt := 65) hx hb dX4_numberAt_57 (by decide) ?_
        have hi12 := hF
        refine va_iald hx hb hK hP 1 0 rfl rfl hi12 dX4_numberAt_65 ?_
        subst hR
        exact krI hx hb hr hlk hP hD hS dX4_numberAt_66 rfl rfl
      · rw [if_neg c11] at hR hF
        refine lv_iconst (v := 0) hx hb dX4_numberAt_40 (by decide) ?_
        refine lv_goto (tgt := 66) hx hb dX4_numberAt_41 (by decide) ?_
        subst hR
        exact krI hx hb hr hlk hP hD hS dX4_numberAt_66 rfl rfl
    · rw [if_neg c9] at hR hF
      refine lv_iconst (v := 0) hx hb dX4_numberAt_29 (by decide) ?_
      refine lv_goto (tgt := 34) hx hb dX4_numberAt_30 (by decide) ?_
      refine kcI (ci := 4) (q0 := 0) (As := [.int 0]) (rest := []) E.1 (cx4_refused E am M 0) hX (cwV 1 hts gX4_numberAt_X4_refused rfl rfl rfl hdX4_refused ⟨Nat.le_of_ble_eq_true rfl, Nat.le_of_ble_eq_true rfl⟩) hKs hK hP hD hS hA _ _ (kw_self _) (kw_self _).symm rfl rfl rfl rfl hl.1 (Nat.le_of_ble_eq_true rfl) dX4_numberAt_34 ⟨Nat.zero_le _, Nat.zero_le _⟩ (fun H locs hP hD hS => ?_)
      have hP : va_P D vwCl (mdW cI am ((fx4_refused M 0).2)) H := hP
      have hD : va_D A (mdW cI am ((fx4_refused M 0).2)) := hD
      generalize eu13 : fx4_refused M 0 = u13 at hR hF hP hD ⊢
      replace hR := bnd_e hR
      replace hF := bnd_p hF
      refine lv_if_eq (tgt := 44) hx hb dX4_numberAt_37 (by decide) (fun c14 => ?_) (fun c14 => ?_)
      · rw [if_pos c14] at hR hF
        refine lv_aload_n hx hb dX4_numberAt_44 rfl (lv_at hl 1 rfl) ?_
        refine va_get (D := D) (ci := 4) (v := .ref (am 1)) (C := RX4) (T := TX4) (N := 8) hx hb hts hinX4 hown hK hP 0 rfl rfl 0 (by decide) q1 (fun _ h9 => h9) rfl dX4_numberAt_45 ?_
        refine lv_iload_n hx hb dX4_numberAt_48 rfl (lv_at hl 3 rfl) ?_
        refine lv_if_eq (tgt := 60) hx hb dX4_numberAt_49 (by decide) (fun c => absurd c c1) (fun _ => ?_)
        refine lv_iload_n hx hb dX4_numberAt_52 rfl (lv_at hl 2 rfl) ?_
        refine lv_iconst (v := 0) hx hb dX4_numberAt_53 (by decide) ?_
        refine kcsI (As := [.int x1, .int 0]) (rest := [.ref (am 1)]) E.1 (cx4_entry E x1 0) hX (va_cwS 2 hts gX4_numberAt_X4_entry rfl rfl rfl hdX4_entry.2 ⟨Nat.le_of_ble_eq_true rfl, Nat.le_of_ble_eq_true rfl⟩) hKs hP hD hS hA _ _ (kw_nil _) (kw_nil _).symm rfl rfl hl.1 (Nat.le_of_ble_eq_true rfl) dX4_numberAt_54 ⟨Nat.zero_le _, Nat.zero_le _⟩ (fun H locs hP hD hS => ?_)
        refine lv_goto (tgt := 65) hx hb dX4_numberAt_57 (by decide) ?_
        have hi15 := hF
        refine va_iald hx hb hK hP 1 0 rfl rfl hi15 dX4_numberAt_65 ?_
        subst hR
        exact krI hx hb hr hlk hP hD hS dX4_numberAt_66 rfl rfl
      · rw [if_neg c14] at hR hF
        refine lv_iconst (v := 0) hx hb dX4_numberAt_40 (by decide) ?_
        refine lv_goto (tgt := 66) hx hb dX4_numberAt_41 (by decide) ?_
        subst hR
        exact krI hx hb hr hlk hP hD hS dX4_numberAt_66 rfl rfl

theorem hdX4_counter : yX4_counter.cls = RX4 ∧ yX4_counter.cls ≠ "java/lang/invoke/MethodHandle" ∧ yX4_counter.cls ≠ "java/lang/invoke/VarHandle" ∧ (parseMethodDescriptor yX4_counter.desc).map (fun d => d.parameters.length) = some 1 := by decide +kernel
def fx4_counter (M : Md) (x1 : Int32) : Int32 × (Md) := (if (fx4_within x1 0 17) = 0 then (bnd (fx4_refused M 1) (fun u2 => (if u2.1 = 0 then ((u2.2.1 0) (17 + x1).toNatClampNeg, u2.2) else (0, u2.2)))) else (bnd (fx4_refused M 0) (fun u5 => (if u5.1 = 0 then ((u5.2.1 0) (17 + x1).toNatClampNeg, u5.2) else (0, u5.2)))))
def sx4_counter (M : Md) (x1 : Int32) : Prop := (if (fx4_within x1 0 17) = 0 then (bnd (fx4_refused M 1) (fun u2 => (if u2.1 = 0 then vp_in (17 + x1) 1203 else True))) else (bnd (fx4_refused M 0) (fun u5 => (if u5.1 = 0 then vp_in (17 + x1) 1203 else True))))
set_option maxHeartbeats 4000000 in
set_option maxRecDepth 100000 in
theorem cx4_counter {l : Launch} {D : va_G} {cI cB cS cJ : ClassId} {K : State → Prop} (E : kE D cI cB cS cJ K) (am : Nat → Nat) (M : Md) (x1 : Int32) (hF : sx4_counter M x1) : kI l D K yX4_counter wsX4_counter 1 22 [.ref (am 0), .int x1] (mdW cI am M) (fx4_counter M x1).1 (mdW cI am ((fx4_counter M x1).2)) := by
  refine kI_of (own := RX4) (cc := cX4_counter) (maxL := 2) (tys := kty cI cB cS cJ) (fun U h => (E.2 U h).1) (by decide) rfl rfl (Nat.le_of_ble_eq_true rfl) ?_
  intro p e s m below meth c A ls hx hb hr hml hts hown hlk hKs hK hP hD hA hS hl
  have hl : lv_has ls 2 [(0, .ref (am 0)), (1, .int x1)] := hl
  have hX : CallFix p m c cX4_counter 2 s _ wsX4_counter RX4 := ⟨hx, hb, hml, hown, hts⟩
  have hinX4 : ∀ w ∈ wsX40, w ∈ wsX4_counter := fun w h => List.mem_cons_of_mem _ (List.mem_append_right _ h)
  have q1 := hts (.fieldLink RX4 7 "LabelStationModel" "now" "[I") (List.mem_of_getElem? (i := 1) rfl)
  generalize hR : fx4_counter M x1 = R
  rw [fx4_counter] at hR
  rw [sx4_counter] at hF
  refine lv_aload_n hx hb dX4_counter_0 rfl (lv_at hl 0 rfl) ?_
  refine lv_iload_n hx hb dX4_counter_1 rfl (lv_at hl 1 rfl) ?_
  refine lv_iconst (v := 0) hx hb dX4_counter_2 (by decide) ?_
  refine lv_bipush (v := 17) hx hb dX4_counter_3 (by decide) ?_
  refine kcsI (As := [.int x1, .int 0, .int 17]) (rest := [.ref (am 0)]) E.1 (cx4_within E x1 0 17) hX (va_cwS 3 hts gX4_counter_X4_within rfl rfl rfl hdX4_within.2 ⟨Nat.le_of_ble_eq_true rfl, Nat.le_of_ble_eq_true rfl⟩) hKs hP hD hS hA _ _ (kw_nil _) (kw_nil _).symm rfl rfl hl.1 (Nat.le_of_ble_eq_true rfl) dX4_counter_5 ⟨Nat.zero_le _, Nat.zero_le _⟩ (fun H locs hP hD hS => ?_)
  refine lv_if_eq (tgt := 15) hx hb dX4_counter_8 (by decide) (fun c1 => ?_) (fun c1 => ?_)
  · rw [if_pos c1] at hR hF
    refine lv_iconst (v := 1) hx hb dX4_counter_15 (by decide) ?_
    refine kcI (ci := 4) (q0 := 0) (As := [.int 1]) (rest := []) E.1 (cx4_refused E am M 1) hX (cwV 1 hts gX4_counter_X4_refused rfl rfl rfl hdX4_refused ⟨Nat.le_of_ble_eq_true rfl, Nat.le_of_ble_eq_true rfl⟩) hKs hK hP hD hS hA _ _ (kw_self _) (kw_self _).symm rfl rfl rfl rfl hl.1 (Nat.le_of_ble_eq_true rfl) dX4_counter_16 ⟨Nat.zero_le _, Nat.zero_le _⟩ (fun H locs hP hD hS => ?_)
    have hP : va_P D vwCl (mdW cI am ((fx4_refused M 1).2)) H := hP
    have hD : va_D A (mdW cI am ((fx4_refused M 1).2)) := hD
    generalize eu2 : fx4_refused M 1 = u2 at hR hF hP hD ⊢
    replace hR := bnd_e hR
    replace hF := bnd_p hF
    refine lv_if_eq (tgt := 26) hx hb dX4_counter_19 (by decide) (fun c3 => ?_) (fun c3 => ?_)
    · rw [if_pos c3] at hR hF
      refine lv_aload_n hx hb dX4_counter_26 rfl (lv_at hl 0 rfl) ?_
      refine va_get (D := D) (ci := 4) (v := .ref (am 1)) (C := RX4) (T := TX4) (N := 8) hx hb hts hinX4 hown hK hP 0 rfl rfl 0 (by decide) q1 (fun _ h9 => h9) rfl dX4_counter_27 ?_
      refine lv_bipush (v := 17) hx hb dX4_counter_30 (by decide) ?_
      refine lv_iload_n hx hb dX4_counter_32 rfl (lv_at hl 1 rfl) ?_
      refine lv_iadd hx hb dX4_counter_33 ?_
      have hi4 := hF
      refine va_iald hx hb hK hP 1 0 rfl rfl hi4 dX4_counter_34 ?_
      subst hR
      exact krI hx hb hr hlk hP hD hS dX4_counter_35 rfl rfl
    · rw [if_neg c3] at hR hF
      refine lv_iconst (v := 0) hx hb dX4_counter_22 (by decide) ?_
      refine lv_goto (tgt := 35) hx hb dX4_counter_23 (by decide) ?_
      subst hR
      exact krI hx hb hr hlk hP hD hS dX4_counter_35 rfl rfl
  · rw [if_neg c1] at hR hF
    refine lv_iconst (v := 0) hx hb dX4_counter_11 (by decide) ?_
    refine lv_goto (tgt := 16) hx hb dX4_counter_12 (by decide) ?_
    refine kcI (ci := 4) (q0 := 0) (As := [.int 0]) (rest := []) E.1 (cx4_refused E am M 0) hX (cwV 1 hts gX4_counter_X4_refused rfl rfl rfl hdX4_refused ⟨Nat.le_of_ble_eq_true rfl, Nat.le_of_ble_eq_true rfl⟩) hKs hK hP hD hS hA _ _ (kw_self _) (kw_self _).symm rfl rfl rfl rfl hl.1 (Nat.le_of_ble_eq_true rfl) dX4_counter_16 ⟨Nat.zero_le _, Nat.zero_le _⟩ (fun H locs hP hD hS => ?_)
    have hP : va_P D vwCl (mdW cI am ((fx4_refused M 0).2)) H := hP
    have hD : va_D A (mdW cI am ((fx4_refused M 0).2)) := hD
    generalize eu5 : fx4_refused M 0 = u5 at hR hF hP hD ⊢
    replace hR := bnd_e hR
    replace hF := bnd_p hF
    refine lv_if_eq (tgt := 26) hx hb dX4_counter_19 (by decide) (fun c6 => ?_) (fun c6 => ?_)
    · rw [if_pos c6] at hR hF
      refine lv_aload_n hx hb dX4_counter_26 rfl (lv_at hl 0 rfl) ?_
      refine va_get (D := D) (ci := 4) (v := .ref (am 1)) (C := RX4) (T := TX4) (N := 8) hx hb hts hinX4 hown hK hP 0 rfl rfl 0 (by decide) q1 (fun _ h9 => h9) rfl dX4_counter_27 ?_
      refine lv_bipush (v := 17) hx hb dX4_counter_30 (by decide) ?_
      refine lv_iload_n hx hb dX4_counter_32 rfl (lv_at hl 1 rfl) ?_
      refine lv_iadd hx hb dX4_counter_33 ?_
      have hi7 := hF
      refine va_iald hx hb hK hP 1 0 rfl rfl hi7 dX4_counter_34 ?_
      subst hR
      exact krI hx hb hr hlk hP hD hS dX4_counter_35 rfl rfl
    · rw [if_neg c6] at hR hF
      refine lv_iconst (v := 0) hx hb dX4_counter_22 (by decide) ?_
      refine lv_goto (tgt := 35) hx hb dX4_counter_23 (by decide) ?_
      subst hR
      exact krI hx hb hr hlk hP hD hS dX4_counter_35 rfl rfl

theorem hdX4_reconcile : yX4_reconcile.cls = RX4 ∧ yX4_reconcile.cls ≠ "java/lang/invoke/MethodHandle" ∧ yX4_reconcile.cls ≠ "java/lang/invoke/VarHandle" ∧ (parseMethodDescriptor yX4_reconcile.desc).map (fun d => d.parameters.length) = some 1 := by decide +kernel
def fx4_reconcile (M : Md) (x1 : Int32) : Int32 × (Md) := (if x1 = 0 then ((((((M.1 0) 17) - ((M.1 0) 18)) - ((M.1 0) 19)) - ((M.1 0) 20)) - ((M.1 0) 117), (sset M.1 4 1 0, M.2)) else ((((((M.1 0) 17) - ((M.1 0) 25)) - ((M.1 0) 35)) - ((M.1 0) 24)) - ((M.1 0) 36), (sset M.1 4 1 0, M.2)))
set_option maxHeartbeats 4000000 in
set_option maxRecDepth 100000 in
theorem cx4_reconcile {l : Launch} {D : va_G} {cI cB cS cJ : ClassId} {K : State → Prop} (E : kE D cI cB cS cJ K) (am : Nat → Nat) (M : Md) (x1 : Int32) : kI l D K yX4_reconcile wsX4_reconcile 0 0 [.ref (am 0), .int x1] (mdW cI am M) (fx4_reconcile M x1).1 (mdW cI am ((fx4_reconcile M x1).2)) := by
  refine kI_of (own := RX4) (cc := cX4_reconcile) (maxL := 3) (tys := kty cI cB cS cJ) (fun U h => (E.2 U h).1) (by decide) rfl rfl (Nat.le_of_ble_eq_true rfl) ?_
  intro p e s m below meth c A ls hx hb hr hml hts hown hlk hKs hK hP hD hA hS hl
  have hl : lv_has ls 3 [(0, .ref (am 0)), (1, .int x1)] := hl
  have hX : CallFix p m c cX4_reconcile 3 s _ wsX4_reconcile RX4 := ⟨hx, hb, hml, hown, hts⟩
  have hinX4 : ∀ w ∈ wsX40, w ∈ wsX4_reconcile := fun w h => List.mem_cons_of_mem _ (List.mem_append_right _ h)
  have q1 := hts (.fieldLink RX4 22 "LabelStationModel" "refusal" "I") (List.mem_of_getElem? (i := 1) rfl)
  have q2 := hts (.fieldLink RX4 7 "LabelStationModel" "now" "[I") (List.mem_of_getElem? (i := 2) rfl)
  generalize hR : fx4_reconcile M x1 = R
  rw [fx4_reconcile] at hR
  refine lv_aload_n hx hb dX4_reconcile_0 rfl (lv_at hl 0 rfl) ?_
  refine lv_iconst (v := 0) hx hb dX4_reconcile_1 (by decide) ?_
  refine va_put (D := D) (ci := 4) (v := .int 0) (ty := .int) (C := RX4) (T := TX4) (N := 8) hx hb hts hinX4 tyX4 tyX4_ok nmX4 hown hK hP hD hS 0 rfl rfl 4 (by decide) q1 (fun _ h9 => h9) rfl (by decide +kernel) rfl rfl (Nat.le_of_ble_eq_true rfl) dX4_reconcile_2 (fun H locs hP hD hS => ?_)
  have hP : va_P D vwCl (mdW cI am (sset M.1 4 1 0, M.2)) H := hP
  have hD : va_D A (mdW cI am (sset M.1 4 1 0, M.2)) := hD
  refine lv_aload_n hx hb dX4_reconcile_5 rfl (lv_at hl 0 rfl) ?_
  refine va_get (D := D) (ci := 4) (v := .ref (am 1)) (C := RX4) (T := TX4) (N := 8) hx hb hts hinX4 hown hK hP 0 rfl rfl 0 (by decide) q2 (fun _ h9 => h9) rfl dX4_reconcile_6 ?_
  refine lv_bipush (v := 17) hx hb dX4_reconcile_9 (by decide) ?_
  refine va_iald hx hb hK hP 1 0 rfl rfl (kin_lit (j := 17) (n := 1203) (by decide) (by decide)) dX4_reconcile_11 ?_
  refine kw_top (v := .int ((M.1 0) 17)) rfl ?_
  refine lv_istore_n (lv' := [(2, .int ((M.1 0) 17)), (0, .ref (am 0)), (1, .int x1)]) hx hb dX4_reconcile_12 rfl hl (by decide) rfl (fun ls hl => ?_)
  refine lv_iload_n hx hb dX4_reconcile_13 rfl (lv_at hl 2 rfl) ?_
  refine lv_if_eq (tgt := 51) hx hb dX4_reconcile_14 (by decide) (fun c1 => ?_) (fun c1 => ?_)
  · rw [if_pos c1] at hR
    refine lv_iload_n hx hb dX4_reconcile_51 rfl (lv_at hl 0 rfl) ?_
    refine lv_aload_n hx hb dX4_reconcile_52 rfl (lv_at hl 1 rfl) ?_
    refine va_get (D := D) (ci := 4) (v := .ref (am 1)) (C := RX4) (T := TX4) (N := 8) hx hb hts hinX4 hown hK hP 0 rfl rfl 0 (by decide) q2 (fun _ h9 => h9) rfl dX4_reconcile_53 ?_
    refine lv_bipush (v := 18) hx hb dX4_reconcile_56 (by decide) ?_
    refine va_iald hx hb hK hP 1 0 rfl rfl (kin_lit (j := 18) (n := 1203) (by decide) (by decide)) dX4_reconcile_58 ?_
    refine kw_top (v := .int ((M.1 0) 18)) rfl ?_
    refine lv_isub hx hb dX4_reconcile_59 ?_
    refine lv_aload_n hx hb dX4_reconcile_60 rfl (lv_at hl 1 rfl) ?_
    refine va_get (D := D) (ci := 4) (v := .ref (am 1)) (C := RX4) (T := TX4) (N := 8) hx hb hts hinX4 hown hK hP 0 rfl rfl 0 (by decide) q2 (fun _ h9 => h9) rfl dX4_reconcile_61 ?_
    refine lv_bipush (v := 19) hx hb dX4_reconcile_64 (by decide) ?_
    refine va_iald hx hb hK hP 1 0 rfl rfl (kin_lit (j := 19) (n := 1203) (by decide) (by decide)) dX4_reconcile_66 ?_
    refine kw_top (v := .int ((M.1 0) 19)) rfl ?_
    refine lv_isub hx hb dX4_reconcile_67 ?_
    refine lv_aload_n hx hb dX4_reconcile_68 rfl (lv_at hl 1 rfl) ?_
    refine va_get (D := D) (ci := 4) (v := .ref (am 1)) (C := RX4) (T := TX4) (N := 8) hx hb hts hinX4 hown hK hP 0 rfl rfl 0 (by decide) q2 (fun _ h9 => h9) rfl dX4_reconcile_69 ?_
    refine lv_bipush (v := 20) hx hb dX4_reconcile_72 (by decide) ?_
    refine va_iald hx hb hK hP 1 0 rfl rfl (kin_lit (j := 20) (n := 1203) (by decide) (by decide)) dX4_reconcile_74 ?_
    refine kw_top (v := .int ((M.1 0) 20)) rfl ?_
    refine lv_isub hx hb dX4_reconcile_75 ?_
    refine lv_aload_n hx hb dX4_reconcile_76 rfl (lv_at hl 1 rfl) ?_
    refine va_get (D := D) (ci := 4) (v := .ref (am 1)) (C := RX4) (T := TX4) (N := 8) hx hb hts hinX4 hown hK hP 0 rfl rfl 0 (by decide) q2 (fun _ h9 => h9) rfl dX4_reconcile_77 ?_
    refine lv_bipush (v := 117) hx hb dX4_reconcile_80 (by decide) ?_
    refine va_iald hx hb hK hP 1 0 rfl rfl (kin_lit (j := 117) (n := 1203) (by decide) (by decide)) dX4_reconcile_82 ?_
    refine kw_top (v := .int ((M.1 0) 117)) rfl ?_
    refine lv_isub hx hb dX4_reconcile_83 ?_
    subst hR
    exact krI hx hb hr hlk hP hD hS dX4_reconcile_84 rfl rfl
  · rw [if_neg c1] at hR
    refine lv_iload_n hx hb dX4_reconcile_17 rfl (lv_at hl 0 rfl) ?_
    refine lv_aload_n hx hb dX4_reconcile_18 rfl (lv_at hl 1 rfl) ?_
    refine va_get (D := D) (ci := 4) (v := .ref (am 1)) (C := RX4) (T := TX4) (N := 8) hx hb hts hinX4 hown hK hP 0 rfl rfl 0 (by decide) q2 (fun _ h9 => h9) rfl dX4_reconcile_19 ?_
    refine lv_bipush (v := 25) hx hb dX4_reconcile_22 (by decide) ?_
    refine va_iald hx hb hK hP 1 0 rfl rfl (kin_lit (j := 25) (n := 1203) (by decide) (by decide)) dX4_reconcile_24 ?_
    refine kw_top (v := .int ((M.1 0) 25)) rfl ?_
    refine lv_isub hx hb dX4_reconcile_25 ?_
    refine lv_aload_n hx hb dX4_reconcile_26 rfl (lv_at hl 1 rfl) ?_
    refine va_get (D := D) (ci := 4) (v := .ref (am 1)) (C := RX4) (T := TX4) (N := 8) hx hb hts hinX4 hown hK hP 0 rfl rfl 0 (by decide) q2 (fun _ h9 => h9) rfl dX4_reconcile_27 ?_
    refine lv_bipush (v := 35) hx hb dX4_reconcile_30 (by decide) ?_
    refine va_iald hx hb hK hP 1 0 rfl rfl (kin_lit (j := 35) (n := 1203) (by decide) (by decide)) dX4_reconcile_32 ?_
    refine kw_top (v := .int ((M.1 0) 35)) rfl ?_
    refine lv_isub hx hb dX4_reconcile_33 ?_
    refine lv_aload_n hx hb dX4_reconcile_34 rfl (lv_at hl 1 rfl) ?_
    refine va_get (D := D) (ci := 4) (v := .ref (am 1)) (C := RX4) (T := TX4) (N := 8) hx hb hts hinX4 hown hK hP 0 rfl rfl 0 (by decide) q2 (fun _ h9 => h9) rfl dX4_reconcile_35 ?_
    refine lv_bipush (v := 24) hx hb dX4_reconcile_38 (by decide) ?_
    refine va_iald hx hb hK hP 1 0 rfl rfl (kin_lit (j := 24) (n := 1203) (by decide) (by decide)) dX4_reconcile_40 ?_
    refine kw_top (v := .int ((M.1 0) 24)) rfl ?_
    refine lv_isub hx hb dX4_reconcile_41 ?_
    refine lv_aload_n hx hb dX4_reconcile_42 rfl (lv_at hl 1 rfl) ?_
    refine va_get (D := D) (ci := 4) (v := .ref (am 1)) (C := RX4) (T := TX4) (N := 8) hx hb hts hinX4 hown hK hP 0 rfl rfl 0 (by decide) q2 (fun _ h9 => h9) rfl dX4_reconcile_43 ?_
    refine lv_bipush (v := 36) hx hb dX4_reconcile_46 (by decide) ?_
    refine va_iald hx hb hK hP 1 0 rfl rfl (kin_lit (j := 36) (n := 1203) (by decide) (by decide)) dX4_reconcile_48 ?_
    refine kw_top (v := .int ((M.1 0) 36)) rfl ?_
    refine lv_isub hx hb dX4_reconcile_49 ?_
    subst hR
    exact krI hx hb hr hlk hP hD hS dX4_reconcile_50 rfl rfl

theorem hdX4_goodShare : yX4_goodShare.cls = RX4 ∧ yX4_goodShare.cls ≠ "java/lang/invoke/MethodHandle" ∧ yX4_goodShare.cls ≠ "java/lang/invoke/VarHandle" ∧ (parseMethodDescriptor yX4_goodShare.desc).map (fun d => d.parameters.length) = some 0 := by decide +kernel
def fx4_goodShare (M : Md) : UInt64 × (Md) := (if ((((M.1 0) 18) + ((M.1 0) 19)) + ((M.1 0) 20)) = 0 then (0, (sset M.1 4 1 0, M.2)) else (FP.ddiv (FP.i2d ((M.1 0) 18)) (FP.i2d ((((M.1 0) 18) + ((M.1 0) 19)) + ((M.1 0) 20))), (sset M.1 4 1 0, M.2)))
def sx4_goodShare (M : Md) : Prop := (if ((((M.1 0) 18) + ((M.1 0) 19)) + ((M.1 0) 20)) = 0 then True else vf_n64 (FP.ddiv (FP.i2d ((M.1 0) 18)) (FP.i2d ((((M.1 0) 18) + ((M.1 0) 19)) + ((M.1 0) 20)))))
set_option maxHeartbeats 4000000 in
set_option maxRecDepth 100000 in
theorem cx4_goodShare {l : Launch} {D : va_G} {cI cB cS cJ : ClassId} {K : State → Prop} (E : kE D cI cB cS cJ K) (am : Nat → Nat) (M : Md) (hF : sx4_goodShare M) : kF l D K yX4_goodShare wsX4_goodShare 0 0 [.ref (am 0)] (mdW cI am M) (fx4_goodShare M).1 (mdW cI am ((fx4_goodShare M).2)) := by
  refine kF_of (own := RX4) (cc := cX4_goodShare) (maxL := 2) (tys := kty cI cB cS cJ) (fun U h => (E.2 U h).1) (by decide) rfl rfl (Nat.le_of_ble_eq_true rfl) ?_
  intro p e s m below meth c A ls hx hb hr hml hts hown hlk hKs hK hP hD hA hS hl
  have hl : lv_has ls 2 [(0, .ref (am 0))] := hl
  have hX : CallFix p m c cX4_goodShare 2 s _ wsX4_goodShare RX4 := ⟨hx, hb, hml, hown, hts⟩
  have hinX4 : ∀ w ∈ wsX40, w ∈ wsX4_goodShare := fun w h => List.mem_cons_of_mem _ (List.mem_append_right _ h)
  have q1 := hts (.fieldLink RX4 22 "LabelStationModel" "refusal" "I") (List.mem_of_getElem? (i := 1) rfl)
  have q2 := hts (.fieldLink RX4 7 "LabelStationModel" "now" "[I") (List.mem_of_getElem? (i := 2) rfl)
  generalize hR : fx4_goodShare M = R
  rw [fx4_goodShare] at hR
  rw [sx4_goodShare] at hF
  refine lv_aload_n hx hb dX4_goodShare_0 rfl (lv_at hl 0 rfl) ?_
  refine lv_iconst (v := 0) hx hb dX4_goodShare_1 (by decide) ?_
  refine va_put (D := D) (ci := 4) (v := .int 0) (ty := .int) (C := RX4) (T := TX4) (N := 8) hx hb hts hinX4 tyX4 tyX4_ok nmX4 hown hK hP hD hS 0 rfl rfl 4 (by decide) q1 (fun _ h9 => h9) rfl (by decide +kernel) rfl rfl (Nat.le_of_ble_eq_true rfl) dX4_goodShare_2 (fun H locs hP hD hS => ?_)
  have hP : va_P D vwCl (mdW cI am (sset M.1 4 1 0, M.2)) H := hP
  have hD : va_D A (mdW cI am (sset M.1 4 1 0, M.2)) := hD
  refine lv_aload_n hx hb dX4_goodShare_5 rfl (lv_at hl 0 rfl) ?_
  refine va_get (D := D) (ci := 4) (v := .ref (am 1)) (C := RX4) (T := TX4) (N := 8) hx hb hts hinX4 hown hK hP 0 rfl rfl 0 (by decide) q2 (fun _ h9 => h9) rfl dX4_goodShare_6 ?_
  refine lv_bipush (v := 18) hx hb dX4_goodShare_9 (by decide) ?_
  refine va_iald hx hb hK hP 1 0 rfl rfl (kin_lit (j := 18) (n := 1203) (by decide) (by decide)) dX4_goodShare_11 ?_
  refine kw_top (v := .int ((M.1 0) 18)) rfl ?_
  refine lv_aload_n hx hb dX4_goodShare_12 rfl (lv_at hl 0 rfl) ?_
  refine va_get (D := D) (ci := 4) (v := .ref (am 1)) (C := RX4) (T := TX4) (N := 8) hx hb hts hinX4 hown hK hP 0 rfl rfl 0 (by decide) q2 (fun _ h9 => h9) rfl dX4_goodShare_13 ?_
  refine lv_bipush (v := 19) hx hb dX4_goodShare_16 (by decide) ?_
  refine va_iald hx hb hK hP 1 0 rfl rfl (kin_lit (j := 19) (n := 1203) (by decide) (by decide)) dX4_goodShare_18 ?_
  refine kw_top (v := .int ((M.1 0) 19)) rfl ?_
  refine lv_iadd hx hb dX4_goodShare_19 ?_
  refine lv_aload_n hx hb dX4_goodShare_20 rfl (lv_at hl 0 rfl) ?_
  refine va_get (D := D) (ci := 4) (v := .ref (am 1)) (C := RX4) (T := TX4) (N := 8) hx hb hts hinX4 hown hK hP 0 rfl rfl 0 (by decide) q2 (fun _ h9 => h9) rfl dX4_goodShare_21 ?_
  refine lv_bipush (v := 20) hx hb dX4_goodShare_24 (by decide) ?_
  refine va_iald hx hb hK hP 1 0 rfl rfl (kin_lit (j := 20) (n := 1203) (by decide) (by decide)) dX4_goodShare_26 ?_
  refine kw_top (v := .int ((M.1 0) 20)) rfl ?_
  refine lv_iadd hx hb dX4_goodShare_27 ?_
  refine lv_istore_n (lv' := [(1, .int ((((M.1 0) 18) + ((M.1 0) 19)) + ((M.1 0) 20))), (0, .ref (am 0))]) hx hb dX4_goodShare_28 rfl hl (by decide) rfl (fun ls hl => ?_)
  refine lv_iload_n hx hb dX4_goodShare_29 rfl (lv_at hl 0 rfl) ?_
  refine lv_if_ne (tgt := 37) hx hb dX4_goodShare_30 (by decide) (fun c1 => ?_) (fun c1 => ?_)
  · rw [if_neg c1] at hR hF
    refine lv_aload_n hx hb dX4_goodShare_37 rfl (lv_at hl 1 rfl) ?_
    refine va_get (D := D) (ci := 4) (v := .ref (am 1)) (C := RX4) (T := TX4) (N := 8) hx hb hts hinX4 hown hK hP 0 rfl rfl 0 (by decide) q2 (fun _ h9 => h9) rfl dX4_goodShare_38 ?_
    refine lv_bipush (v := 18) hx hb dX4_goodShare_41 (by decide) ?_
    refine va_iald hx hb hK hP 1 0 rfl rfl (kin_lit (j := 18) (n := 1203) (by decide) (by decide)) dX4_goodShare_43 ?_
    refine kw_top (v := .int ((M.1 0) 18)) rfl ?_
    refine lv_i2d hx hb dX4_goodShare_44 ?_
    refine lv_iload_n hx hb dX4_goodShare_45 rfl (lv_at hl 0 rfl) ?_
    refine lv_i2d hx hb dX4_goodShare_46 ?_
    have hn2 := hF
    refine lv_ddiv hx hb dX4_goodShare_47 hn2 ?_
    subst hR
    exact krF hx hb hr hlk hP hD hS dX4_goodShare_48 rfl rfl
  · rw [if_pos c1] at hR hF
    refine lv_dconst0 hx hb dX4_goodShare_33 ?_
    refine lv_goto (tgt := 48) hx hb dX4_goodShare_34 (by decide) ?_
    subst hR
    exact krF hx hb hr hlk hP hD hS dX4_goodShare_48 rfl rfl

theorem hdX4_spare : yX4_spare.cls = RX4 ∧ yX4_spare.cls ≠ "java/lang/invoke/MethodHandle" ∧ yX4_spare.cls ≠ "java/lang/invoke/VarHandle" ∧ (parseMethodDescriptor yX4_spare.desc).map (fun d => d.parameters.length) = some 1 := by decide +kernel
def fx4_spare (M : Md) (x1 : Int32) : Int32 × (Md) := (if (fx4_within x1 1 10) = 0 then (bnd (fx4_refused M 1) (fun u2 => (if u2.1 = 0 then (bnd (fx4_spareOf (u2.2.1 0) x1) (fun v4 => (v4, u2.2))) else (0, u2.2)))) else (bnd (fx4_refused M 0) (fun u5 => (if u5.1 = 0 then (bnd (fx4_spareOf (u5.2.1 0) x1) (fun v7 => (v7, u5.2))) else (0, u5.2)))))
set_option maxHeartbeats 4000000 in
set_option maxRecDepth 100000 in
theorem cx4_spare {l : Launch} {D : va_G} {cI cB cS cJ : ClassId} {K : State → Prop} (E : kE D cI cB cS cJ K) (am : Nat → Nat) (M : Md) (x1 : Int32) : kI l D K yX4_spare wsX4_spare 1 22 [.ref (am 0), .int x1] (mdW cI am M) (fx4_spare M x1).1 (mdW cI am ((fx4_spare M x1).2)) := by
  refine kI_of (own := RX4) (cc := cX4_spare) (maxL := 2) (tys := kty cI cB cS cJ) (fun U h => (E.2 U h).1) (by decide) rfl rfl (Nat.le_of_ble_eq_true rfl) ?_
  intro p e s m below meth c A ls hx hb hr hml hts hown hlk hKs hK hP hD hA hS hl
  have hl : lv_has ls 2 [(0, .ref (am 0)), (1, .int x1)] := hl
  have hX : CallFix p m c cX4_spare 2 s _ wsX4_spare RX4 := ⟨hx, hb, hml, hown, hts⟩
  generalize hR : fx4_spare M x1 = R
  rw [fx4_spare] at hR
  refine lv_aload_n hx hb dX4_spare_0 rfl (lv_at hl 0 rfl) ?_
  refine lv_iload_n hx hb dX4_spare_1 rfl (lv_at hl 1 rfl) ?_
  refine lv_iconst (v := 1) hx hb dX4_spare_2 (by decide) ?_
  refine lv_bipush (v := 10) hx hb dX4_spare_3 (by decide) ?_
  refine kcsI (As := [.int x1, .int 1, .int 10]) (rest := [.ref (am 0)]) E.1 (cx4_within E x1 1 10) hX (va_cwS 3 hts gX4_spare_X4_within rfl rfl rfl hdX4_within.2 ⟨Nat.le_of_ble_eq_true rfl, Nat.le_of_ble_eq_true rfl⟩) hKs hP hD hS hA _ _ (kw_nil _) (kw_nil _).symm rfl rfl hl.1 (Nat.le_of_ble_eq_true rfl) dX4_spare_5 ⟨Nat.zero_le _, Nat.zero_le _⟩ (fun H locs hP hD hS => ?_)
  refine lv_if_eq (tgt := 15) hx hb dX4_spare_8 (by decide) (fun c1 => ?_) (fun c1 => ?_)
  · rw [if_pos c1] at hR
    refine lv_iconst (v := 1) hx hb dX4_spare_15 (by decide) ?_
    refine kcI (ci := 4) (q0 := 0) (As := [.int 1]) (rest := []) E.1 (cx4_refused E am M 1) hX (cwV 1 hts gX4_spare_X4_refused rfl rfl rfl hdX4_refused ⟨Nat.le_of_ble_eq_true rfl, Nat.le_of_ble_eq_true rfl⟩) hKs hK hP hD hS hA _ _ (kw_self _) (kw_self _).symm rfl rfl rfl rfl hl.1 (Nat.le_of_ble_eq_true rfl) dX4_spare_16 ⟨Nat.zero_le _, Nat.zero_le _⟩ (fun H locs hP hD hS => ?_)
    have hP : va_P D vwCl (mdW cI am ((fx4_refused M 1).2)) H := hP
    have hD : va_D A (mdW cI am ((fx4_refused M 1).2)) := hD
    generalize eu2 : fx4_refused M 1 = u2 at hR hP hD ⊢
    replace hR := bnd_e hR
    refine lv_if_eq (tgt := 26) hx hb dX4_spare_19 (by decide) (fun c3 => ?_) (fun c3 => ?_)
    · rw [if_pos c3] at hR
      refine lv_aload_n hx hb dX4_spare_26 rfl (lv_at hl 0 rfl) ?_
      refine lv_iload_n hx hb dX4_spare_27 rfl (lv_at hl 1 rfl) ?_
      refine kcI (ci := 4) (q0 := 0) (As := [.int x1]) (rest := []) E.1 (cx4_spareOf E am (u2.2.1 4 0) (u2.2.1 4 1) (u2.2.1 4 2) u2.2.2 (u2.2.1 0) x1) hX (cwV 1 hts gX4_spare_X4_spareOf rfl rfl rfl hdX4_spareOf ⟨Nat.le_of_ble_eq_true rfl, Nat.le_of_ble_eq_true rfl⟩) hKs hK hP hD hS hA _ _ (md_mn cI am u2.2) (md_mn cI am u2.2).symm rfl rfl rfl rfl hl.1 (Nat.le_of_ble_eq_true rfl) dX4_spare_28 ⟨Nat.zero_le _, Nat.zero_le _⟩ (fun H locs hP hD hS => ?_)
      generalize ev4 : fx4_spareOf (u2.2.1 0) x1 = v4 at hR ⊢
      replace hR := bnd_e hR
      subst hR
      exact krI hx hb hr hlk hP hD hS dX4_spare_31 rfl rfl
    · rw [if_neg c3] at hR
      refine lv_iconst (v := 0) hx hb dX4_spare_22 (by decide) ?_
      refine lv_goto (tgt := 31) hx hb dX4_spare_23 (by decide) ?_
      subst hR
      exact krI hx hb hr hlk hP hD hS dX4_spare_31 rfl rfl
  · rw [if_neg c1] at hR
    refine lv_iconst (v := 0) hx hb dX4_spare_11 (by decide) ?_
    refine lv_goto (tgt := 16) hx hb dX4_spare_12 (by decide) ?_
    refine kcI (ci := 4) (q0 := 0) (As := [.int 0]) (rest := []) E.1 (cx4_refused E am M 0) hX (cwV 1 hts gX4_spare_X4_refused rfl rfl rfl hdX4_refused ⟨Nat.le_of_ble_eq_true rfl, Nat.le_of_ble_eq_true rfl⟩) hKs hK hP hD hS hA _ _ (kw_self _) (kw_self _).symm rfl rfl rfl rfl hl.1 (Nat.le_of_ble_eq_true rfl) dX4_spare_16 ⟨Nat.zero_le _, Nat.zero_le _⟩ (fun H locs hP hD hS => ?_)
    have hP : va_P D vwCl (mdW cI am ((fx4_refused M 0).2)) H := hP
    have hD : va_D A (mdW cI am ((fx4_refused M 0).2)) := hD
    generalize eu5 : fx4_refused M 0 = u5 at hR hP hD ⊢
    replace hR := bnd_e hR
    refine lv_if_eq (tgt := 26) hx hb dX4_spare_19 (by decide) (fun c6 => ?_) (fun c6 => ?_)
    · rw [if_pos c6] at hR
      refine lv_aload_n hx hb dX4_spare_26 rfl (lv_at hl 0 rfl) ?_
      refine lv_iload_n hx hb dX4_spare_27 rfl (lv_at hl 1 rfl) ?_
      refine kcI (ci := 4) (q0 := 0) (As := [.int x1]) (rest := []) E.1 (cx4_spareOf E am (u5.2.1 4 0) (u5.2.1 4 1) (u5.2.1 4 2) u5.2.2 (u5.2.1 0) x1) hX (cwV 1 hts gX4_spare_X4_spareOf rfl rfl rfl hdX4_spareOf ⟨Nat.le_of_ble_eq_true rfl, Nat.le_of_ble_eq_true rfl⟩) hKs hK hP hD hS hA _ _ (md_mn cI am u5.2) (md_mn cI am u5.2).symm rfl rfl rfl rfl hl.1 (Nat.le_of_ble_eq_true rfl) dX4_spare_28 ⟨Nat.zero_le _, Nat.zero_le _⟩ (fun H locs hP hD hS => ?_)
      generalize ev7 : fx4_spareOf (u5.2.1 0) x1 = v7 at hR ⊢
      replace hR := bnd_e hR
      subst hR
      exact krI hx hb hr hlk hP hD hS dX4_spare_31 rfl rfl
    · rw [if_neg c6] at hR
      refine lv_iconst (v := 0) hx hb dX4_spare_22 (by decide) ?_
      refine lv_goto (tgt := 31) hx hb dX4_spare_23 (by decide) ?_
      subst hR
      exact krI hx hb hr hlk hP hD hS dX4_spare_31 rfl rfl

theorem hdX4_fastest : yX4_fastest.cls = RX4 ∧ yX4_fastest.cls ≠ "java/lang/invoke/MethodHandle" ∧ yX4_fastest.cls ≠ "java/lang/invoke/VarHandle" ∧ (parseMethodDescriptor yX4_fastest.desc).map (fun d => d.parameters.length) = some 0 := by decide +kernel
def fx4_fastest_L9 : Nat → Int32 → Int32 → Md → Int32 × (Md)
  | 0, _, _, M => (0, M)
  | n9 + 1, y1, y2, M => (if 10 < y2 then (y1, M) else (bnd (fx4_spareOf (M.1 0) y2) (fun v10002 => (if v10002 ≤ 0 then fx4_fastest_L9 n9 y1 (y2 + 1) M else fx4_fastest_L9 n9 y2 (y2 + 1) M))))
def sx4_fastest_L9 : Nat → Int32 → Int32 → Md → Prop
  | 0, _, _, _ => False
  | n9 + 1, y1, y2, M => (if 10 < y2 then True else (bnd (fx4_spareOf (M.1 0) y2) (fun v10002 => (if v10002 ≤ 0 then sx4_fastest_L9 n9 y1 (y2 + 1) M else sx4_fastest_L9 n9 y2 (y2 + 1) M))))
def fx4_fastest (M : Md) : Int32 × (Md) := fx4_fastest_L9 kfu (-1) 1 (sset M.1 4 1 0, M.2)
def sx4_fastest (M : Md) : Prop := sx4_fastest_L9 kfu (-1) 1 (sset M.1 4 1 0, M.2)
set_option maxHeartbeats 4000000 in
set_option maxRecDepth 100000 in
theorem cx4_fastest {l : Launch} {D : va_G} {cI cB cS cJ : ClassId} {K : State → Prop} (E : kE D cI cB cS cJ K) (am : Nat → Nat) (M : Md) (hF : sx4_fastest M) : kI l D K yX4_fastest wsX4_fastest 1 21 [.ref (am 0)] (mdW cI am M) (fx4_fastest M).1 (mdW cI am ((fx4_fastest M).2)) := by
  refine kI_of (own := RX4) (cc := cX4_fastest) (maxL := 3) (tys := kty cI cB cS cJ) (fun U h => (E.2 U h).1) (by decide) rfl rfl (Nat.le_of_ble_eq_true rfl) ?_
  intro p e s m below meth c A ls hx hb hr hml hts hown hlk hKs hK hP hD hA hS hl
  have hl : lv_has ls 3 [(0, .ref (am 0))] := hl
  have hX : CallFix p m c cX4_fastest 3 s _ wsX4_fastest RX4 := ⟨hx, hb, hml, hown, hts⟩
  have hinX4 : ∀ w ∈ wsX40, w ∈ wsX4_fastest := fun w h => List.mem_cons_of_mem _ (List.mem_append_right _ h)
  have q1 := hts (.fieldLink RX4 22 "LabelStationModel" "refusal" "I") (List.mem_of_getElem? (i := 1) rfl)
  generalize hR : fx4_fastest M = R
  rw [fx4_fastest] at hR
  rw [sx4_fastest] at hF
  refine lv_aload_n hx hb dX4_fastest_0 rfl (lv_at hl 0 rfl) ?_
  refine lv_iconst (v := 0) hx hb dX4_fastest_1 (by decide) ?_
  refine va_put (D := D) (ci := 4) (v := .int 0) (ty := .int) (C := RX4) (T := TX4) (N := 8) hx hb hts hinX4 tyX4 tyX4_ok nmX4 hown hK hP hD hS 0 rfl rfl 4 (by decide) q1 (fun _ h9 => h9) rfl (by decide +kernel) rfl rfl (Nat.le_of_ble_eq_true rfl) dX4_fastest_2 (fun H locs hP hD hS => ?_)
  have hP : va_P D vwCl (mdW cI am (sset M.1 4 1 0, M.2)) H := hP
  have hD : va_D A (mdW cI am (sset M.1 4 1 0, M.2)) := hD
  refine lv_iconst (v := (-1)) hx hb dX4_fastest_5 (by decide) ?_
  refine lv_istore_n (lv' := [(1, .int (-1)), (0, .ref (am 0))]) hx hb dX4_fastest_6 rfl hl (by decide) rfl (fun ls hl => ?_)
  refine lv_iconst (v := 1) hx hb dX4_fastest_7 (by decide) ?_
  refine lv_istore_n (lv' := [(2, .int 1), (1, .int (-1)), (0, .ref (am 0))]) hx hb dX4_fastest_8 rfl hl (by decide) rfl (fun ls hl => ?_)
  have loop9 : ∀ (n9 : Nat) (y1 : Int32) (y2 : Int32) (M : Md) (H : Heap) (locs : List Loc) (ls : Array Slot), fx4_fastest_L9 n9 y1 y2 M = R → sx4_fastest_L9 n9 y1 y2 M → va_P D vwCl (mdW cI am M) H → va_D A (mdW cI am M) → va_S A s.heap H locs → lv_has ls 3 [(1, .int y1), (2, .int y2), (0, .ref (am 0))] → W p l e (kRm 1 21) s m ([.ref (am 0)] : List Value).toArray below meth c H locs 0 0 (kQI D below R.1 (mdW cI am R.2) A ([.ref (am 0)] : List Value).toArray s) (F0 m 9 ls []) := by
    intro n9
    induction n9 with
    | zero => intro y1 y2 M H locs ls hR hF; exact hF.elim
    | succ n9 ih9 =>
      intro y1 y2 M H locs ls hR hF hP hD hS hl
      rw [fx4_fastest_L9] at hR
      rw [sx4_fastest_L9] at hF
      refine lv_iload_n hx hb dX4_fastest_9 rfl (lv_at hl 1 rfl) ?_
      refine lv_bipush (v := 10) hx hb dX4_fastest_10 (by decide) ?_
      refine lv_icmp_gt (tgt := 35) hx hb dX4_fastest_12 (by decide) (fun c10001 => ?_) (fun c10001 => ?_)
      · rw [if_pos c10001] at hR hF
        refine lv_iload_n hx hb dX4_fastest_35 rfl (lv_at hl 0 rfl) ?_
        subst hR
        exact krI hx hb hr hlk hP hD hS dX4_fastest_36 rfl rfl
      · rw [if_neg c10001] at hR hF
        refine lv_aload_n hx hb dX4_fastest_15 rfl (lv_at hl 2 rfl) ?_
        refine lv_iload_n hx hb dX4_fastest_16 rfl (lv_at hl 1 rfl) ?_
        refine kcI (ci := 4) (q0 := 0) (As := [.int y2]) (rest := []) E.1 (cx4_spareOf E am (M.1 4 0) (M.1 4 1) (M.1 4 2) M.2 (M.1 0) y2) hX (cwV 1 hts gX4_fastest_X4_spareOf rfl rfl rfl hdX4_spareOf ⟨Nat.le_of_ble_eq_true rfl, Nat.le_of_ble_eq_true rfl⟩) hKs hK hP hD hS hA _ _ (md_mn cI am M) (md_mn cI am M).symm rfl rfl rfl rfl hl.1 (Nat.le_of_ble_eq_true rfl) dX4_fastest_17 ⟨Nat.zero_le _, Nat.zero_le _⟩ (fun H locs hP hD hS => ?_)
        generalize ev10002 : fx4_spareOf (M.1 0) y2 = v10002 at hR hF ⊢
        replace hR := bnd_e hR
        replace hF := bnd_p hF
        refine lv_if_le (tgt := 27) hx hb dX4_fastest_20 (by decide) (fun c10003 => ?_) (fun c10003 => ?_)
        · rw [if_pos c10003] at hR hF
          refine lv_iload_n hx hb dX4_fastest_27 rfl (lv_at hl 0 rfl) ?_
          refine lv_istore_n (lv' := [(1, .int y1), (2, .int y2), (0, .ref (am 0))]) hx hb dX4_fastest_28 rfl hl (by decide) rfl (fun ls hl => ?_)
          refine lv_iinc (v := y2 + 1) (lv' := [(2, .int (y2 + 1)), (1, .int y1), (0, .ref (am 0))]) hx hb dX4_fastest_29 hl (k := 1) rfl rfl (by decide) rfl (fun ls hl => ?_)
          refine lv_goto (tgt := 9) hx hb dX4_fastest_32 (by decide) ?_
          exact ih9 y1 (y2 + 1) M _ _ ls hR hF hP hD hS (lv_sub hl [1, 0, 2] rfl)
        · rw [if_neg c10003] at hR hF
          refine lv_iload_n hx hb dX4_fastest_23 rfl (lv_at hl 1 rfl) ?_
          refine lv_goto (tgt := 28) hx hb dX4_fastest_24 (by decide) ?_
          refine lv_istore_n (lv' := [(1, .int y2), (2, .int y2), (0, .ref (am 0))]) hx hb dX4_fastest_28 rfl hl (by decide) rfl (fun ls hl => ?_)
          refine lv_iinc (v := y2 + 1) (lv' := [(2, .int (y2 + 1)), (1, .int y2), (0, .ref (am 0))]) hx hb dX4_fastest_29 hl (k := 1) rfl rfl (by decide) rfl (fun ls hl => ?_)
          refine lv_goto (tgt := 9) hx hb dX4_fastest_32 (by decide) ?_
          exact ih9 y2 (y2 + 1) M _ _ ls hR hF hP hD hS (lv_sub hl [1, 0, 2] rfl)
  exact loop9 kfu (-1) 1 (sset M.1 4 1 0, M.2) _ _ ls hR hF hP hD hS (lv_sub hl [1, 0, 2] rfl)

theorem hdX4_append : yX4_append.cls = RX4 ∧ yX4_append.cls ≠ "java/lang/invoke/MethodHandle" ∧ yX4_append.cls ≠ "java/lang/invoke/VarHandle" ∧ (parseMethodDescriptor yX4_append.desc).map (fun d => d.parameters.length) = some 1 := by decide +kernel
def fx4_append (M : Md) (x1 : Int32) : Int32 × (Md) := (if (fx4_within x1 0 127) = 0 then (bnd (fx4_refused M 1) (fun u2 => (if u2.1 = 0 then (bnd (upd (u2.2.1 3) (u2.2.1 4 2).toNatClampNeg x1) (fun g5 => ((u2.2.1 4 2) + 1, (sset (va_up u2.2.1 3 g5) 4 2 ((u2.2.1 4 2) + 1), u2.2.2)))) else (0, u2.2)))) else (if (M.1 4 2) = 80 then (bnd (fx4_refused M 2) (fun u7 => (if u7.1 = 0 then (bnd (upd (u7.2.1 3) (u7.2.1 4 2).toNatClampNeg x1) (fun g10 => ((u7.2.1 4 2) + 1, (sset (va_up u7.2.1 3 g10) 4 2 ((u7.2.1 4 2) + 1), u7.2.2)))) else (0, u7.2)))) else (bnd (fx4_refused M 0) (fun u11 => (if u11.1 = 0 then (bnd (upd (u11.2.1 3) (u11.2.1 4 2).toNatClampNeg x1) (fun g14 => ((u11.2.1 4 2) + 1, (sset (va_up u11.2.1 3 g14) 4 2 ((u11.2.1 4 2) + 1), u11.2.2)))) else (0, u11.2))))))
def sx4_append (M : Md) (x1 : Int32) : Prop := (if (fx4_within x1 0 127) = 0 then (bnd (fx4_refused M 1) (fun u2 => (if u2.1 = 0 then vp_in (u2.2.1 4 2) 80 else True))) else (if (M.1 4 2) = 80 then (bnd (fx4_refused M 2) (fun u7 => (if u7.1 = 0 then vp_in (u7.2.1 4 2) 80 else True))) else (bnd (fx4_refused M 0) (fun u11 => (if u11.1 = 0 then vp_in (u11.2.1 4 2) 80 else True)))))
set_option maxHeartbeats 4000000 in
set_option maxRecDepth 100000 in
theorem cx4_append {l : Launch} {D : va_G} {cI cB cS cJ : ClassId} {K : State → Prop} (E : kE D cI cB cS cJ K) (am : Nat → Nat) (M : Md) (x1 : Int32) (hF : sx4_append M x1) : kI l D K yX4_append wsX4_append 1 22 [.ref (am 0), .int x1] (mdW cI am M) (fx4_append M x1).1 (mdW cI am ((fx4_append M x1).2)) := by
  refine kI_of (own := RX4) (cc := cX4_append) (maxL := 2) (tys := kty cI cB cS cJ) (fun U h => (E.2 U h).1) (by decide) rfl rfl (Nat.le_of_ble_eq_true rfl) ?_
  intro p e s m below meth c A ls hx hb hr hml hts hown hlk hKs hK hP hD hA hS hl
  have hl : lv_has ls 2 [(0, .ref (am 0)), (1, .int x1)] := hl
  have hX : CallFix p m c cX4_append 2 s _ wsX4_append RX4 := ⟨hx, hb, hml, hown, hts⟩
  have hinX4 : ∀ w ∈ wsX40, w ∈ wsX4_append := fun w h => List.mem_cons_of_mem _ (List.mem_append_right _ h)
  have q1 := hts (.fieldLink RX4 128 "LabelStationModel" "length" "I") (List.mem_of_getElem? (i := 1) rfl)
  have q2 := hts (.fieldLink RX4 19 "LabelStationModel" "text" "[I") (List.mem_of_getElem? (i := 2) rfl)
  generalize hR : fx4_append M x1 = R
  rw [fx4_append] at hR
  rw [sx4_append] at hF
  refine lv_aload_n hx hb dX4_append_0 rfl (lv_at hl 0 rfl) ?_
  refine lv_iload_n hx hb dX4_append_1 rfl (lv_at hl 1 rfl) ?_
  refine lv_iconst (v := 0) hx hb dX4_append_2 (by decide) ?_
  refine lv_bipush (v := 127) hx hb dX4_append_3 (by decide) ?_
  refine kcsI (As := [.int x1, .int 0, .int 127]) (rest := [.ref (am 0)]) E.1 (cx4_within E x1 0 127) hX (va_cwS 3 hts gX4_append_X4_within rfl rfl rfl hdX4_within.2 ⟨Nat.le_of_ble_eq_true rfl, Nat.le_of_ble_eq_true rfl⟩) hKs hP hD hS hA _ _ (kw_nil _) (kw_nil _).symm rfl rfl hl.1 (Nat.le_of_ble_eq_true rfl) dX4_append_5 ⟨Nat.zero_le _, Nat.zero_le _⟩ (fun H locs hP hD hS => ?_)
  refine lv_if_ne (tgt := 15) hx hb dX4_append_8 (by decide) (fun c1 => ?_) (fun c1 => ?_)
  · rw [if_neg c1] at hR hF
    refine lv_aload_n hx hb dX4_append_15 rfl (lv_at hl 0 rfl) ?_
    refine va_get (D := D) (ci := 4) (v := .int (M.1 4 2)) (C := RX4) (T := TX4) (N := 8) hx hb hts hinX4 hown hK hP 0 rfl rfl 6 (by decide) q1 (fun _ h9 => h9) rfl dX4_append_16 ?_
    refine lv_bipush (v := 80) hx hb dX4_append_19 (by decide) ?_
    refine lv_icmp_ne (tgt := 28) hx hb dX4_append_21 (by decide) (fun c6 => ?_) (fun c6 => ?_)
    · rw [if_neg c6] at hR hF
      refine lv_iconst (v := 0) hx hb dX4_append_28 (by decide) ?_
      refine kcI (ci := 4) (q0 := 0) (As := [.int 0]) (rest := []) E.1 (cx4_refused E am M 0) hX (cwV 1 hts gX4_append_X4_refused rfl rfl rfl hdX4_refused ⟨Nat.le_of_ble_eq_true rfl, Nat.le_of_ble_eq_true rfl⟩) hKs hK hP hD hS hA _ _ (kw_self _) (kw_self _).symm rfl rfl rfl rfl hl.1 (Nat.le_of_ble_eq_true rfl) dX4_append_29 ⟨Nat.zero_le _, Nat.zero_le _⟩ (fun H locs hP hD hS => ?_)
      have hP : va_P D vwCl (mdW cI am ((fx4_refused M 0).2)) H := hP
      have hD : va_D A (mdW cI am ((fx4_refused M 0).2)) := hD
      generalize eu11 : fx4_refused M 0 = u11 at hR hF hP hD ⊢
      replace hR := bnd_e hR
      replace hF := bnd_p hF
      refine lv_if_eq (tgt := 37) hx hb dX4_append_32 (by decide) (fun c12 => ?_) (fun c12 => ?_)
      · rw [if_pos c12] at hR hF
        refine lv_aload_n hx hb dX4_append_37 rfl (lv_at hl 0 rfl) ?_
        refine va_get (D := D) (ci := 4) (v := .ref (am 4)) (C := RX4) (T := TX4) (N := 8) hx hb hts hinX4 hown hK hP 0 rfl rfl 5 (by decide) q2 (fun _ h9 => h9) rfl dX4_append_38 ?_
        refine lv_aload_n hx hb dX4_append_41 rfl (lv_at hl 0 rfl) ?_
        refine va_get (D := D) (ci := 4) (v := .int (u11.2.1 4 2)) (C := RX4) (T := TX4) (N := 8) hx hb hts hinX4 hown hK hP 0 rfl rfl 6 (by decide) q1 (fun _ h9 => h9) rfl dX4_append_42 ?_
        refine lv_iload_n hx hb dX4_append_45 rfl (lv_at hl 1 rfl) ?_
        have hi13 := hF
        refine va_iast hx hb hK hP hD hS 4 0 rfl rfl hi13 dX4_append_46 (fun H locs hP hD hS => ?_)
        have hP : va_P D vwCl (mdW cI am (va_up u11.2.1 3 (upd (u11.2.1 3) (u11.2.1 4 2).toNatClampNeg x1), u11.2.2)) H := hP
        have hD : va_D A (mdW cI am (va_up u11.2.1 3 (upd (u11.2.1 3) (u11.2.1 4 2).toNatClampNeg x1), u11.2.2)) := hD
        generalize eg14 : upd (u11.2.1 3) (u11.2.1 4 2).toNatClampNeg x1 = g14 at hR hP hD
        replace hR := bnd_e hR
        refine lv_aload_n hx hb dX4_append_47 rfl (lv_at hl 0 rfl) ?_
        refine lv_dup hx hb dX4_append_48 rfl ?_
        refine va_get (D := D) (ci := 4) (v := .int (u11.2.1 4 2)) (C := RX4) (T := TX4) (N := 8) hx hb hts hinX4 hown hK hP 0 rfl rfl 6 (by decide) q1 (fun _ h9 => h9) rfl dX4_append_49 ?_
        refine lv_iconst (v := 1) hx hb dX4_append_52 (by decide) ?_
        refine lv_iadd hx hb dX4_append_53 ?_
        refine va_put (D := D) (ci := 4) (v := .int ((u11.2.1 4 2) + 1)) (ty := .int) (C := RX4) (T := TX4) (N := 8) hx hb hts hinX4 tyX4 tyX4_ok nmX4 hown hK hP hD hS 0 rfl rfl 6 (by decide) q1 (fun _ h9 => h9) rfl (by decide +kernel) rfl rfl (Nat.le_of_ble_eq_true rfl) dX4_append_54 (fun H locs hP hD hS => ?_)
        have hP : va_P D vwCl (mdW cI am (sset (va_up u11.2.1 3 g14) 4 2 ((u11.2.1 4 2) + 1), u11.2.2)) H := hP
        have hD : va_D A (mdW cI am (sset (va_up u11.2.1 3 g14) 4 2 ((u11.2.1 4 2) + 1), u11.2.2)) := hD
        refine lv_aload_n hx hb dX4_append_57 rfl (lv_at hl 0 rfl) ?_
        refine va_get (D := D) (ci := 4) (v := .int ((u11.2.1 4 2) + 1)) (C := RX4) (T := TX4) (N := 8) hx hb hts hinX4 hown hK hP 0 rfl rfl 6 (by decide) q1 (fun _ h9 => h9) rfl dX4_append_58 ?_
        subst hR
        exact krI hx hb hr hlk hP hD hS dX4_append_61 rfl rfl
      · rw [if_neg c12] at hR hF
        refine lv_iconst (v := 0) hx hb dX4_append_35 (by decide) ?_
        subst hR
        exact krI hx hb hr hlk hP hD hS dX4_append_36 rfl rfl
    · rw [if_pos c6] at hR hF
      refine lv_iconst (v := 2) hx hb dX4_append_24 (by decide) ?_
      refine lv_goto (tgt := 29) hx hb dX4_append_25 (by decide) ?_
      refine kcI (ci := 4) (q0 := 0) (As := [.int 2]) (rest := []) E.1 (cx4_refused E am M 2) hX (cwV 1 hts gX4_append_X4_refused rfl rfl rfl hdX4_refused ⟨Nat.le_of_ble_eq_true rfl, Nat.le_of_ble_eq_true rfl⟩) hKs hK hP hD hS hA _ _ (kw_self _) (kw_self _).symm rfl rfl rfl rfl hl.1 (Nat.le_of_ble_eq_true rfl) dX4_append_29 ⟨Nat.zero_le _, Nat.zero_le _⟩ (fun H locs hP hD hS => ?_)
      have hP : va_P D vwCl (mdW cI am ((fx4_refused M 2).2)) H := hP
      have hD : va_D A (mdW cI am ((fx4_refused M 2).2)) := hD
      generalize eu7 : fx4_refused M 2 = u7 at hR hF hP hD ⊢
      replace hR := bnd_e hR
      replace hF := bnd_p hF
      refine lv_if_eq (tgt := 37) hx hb dX4_append_32 (by decide) (fun c8 => ?_) (fun c8 => ?_)
      · rw [if_pos c8] at hR hF
        refine lv_aload_n hx hb dX4_append_37 rfl (lv_at hl 0 rfl) ?_
        refine va_get (D := D) (ci := 4) (v := .ref (am 4)) (C := RX4) (T := TX4) (N := 8) hx hb hts hinX4 hown hK hP 0 rfl rfl 5 (by decide) q2 (fun _ h9 => h9) rfl dX4_append_38 ?_
        refine lv_aload_n hx hb dX4_append_41 rfl (lv_at hl 0 rfl) ?_
        refine va_get (D := D) (ci := 4) (v := .int (u7.2.1 4 2)) (C := RX4) (T := TX4) (N := 8) hx hb hts hinX4 hown hK hP 0 rfl rfl 6 (by decide) q1 (fun _ h9 => h9) rfl dX4_append_42 ?_
        refine lv_iload_n hx hb dX4_append_45 rfl (lv_at hl 1 rfl) ?_
        have hi9 := hF
        refine va_iast hx hb hK hP hD hS 4 0 rfl rfl hi9 dX4_append_46 (fun H locs hP hD hS => ?_)
        have hP : va_P D vwCl (mdW cI am (va_up u7.2.1 3 (upd (u7.2.1 3) (u7.2.1 4 2).toNatClampNeg x1), u7.2.2)) H := hP
        have hD : va_D A (mdW cI am (va_up u7.2.1 3 (upd (u7.2.1 3) (u7.2.1 4 2).toNatClampNeg x1), u7.2.2)) := hD
        generalize eg10 : upd (u7.2.1 3) (u7.2.1 4 2).toNatClampNeg x1 = g10 at hR hP hD
        replace hR := bnd_e hR
        refine lv_aload_n hx hb dX4_append_47 rfl (lv_at hl 0 rfl) ?_
        refine lv_dup hx hb dX4_append_48 rfl ?_
        refine va_get (D := D) (ci := 4) (v := .int (u7.2.1 4 2)) (C := RX4) (T := TX4) (N := 8) hx hb hts hinX4 hown hK hP 0 rfl rfl 6 (by decide) q1 (fun _ h9 => h9) rfl dX4_append_49 ?_
        refine lv_iconst (v := 1) hx hb dX4_append_52 (by decide) ?_
        refine lv_iadd hx hb dX4_append_53 ?_
        refine va_put (D := D) (ci := 4) (v := .int ((u7.2.1 4 2) + 1)) (ty := .int) (C := RX4) (T := TX4) (N := 8) hx hb hts hinX4 tyX4 tyX4_ok nmX4 hown hK hP hD hS 0 rfl rfl 6 (by decide) q1 (fun _ h9 => h9) rfl (by decide +kernel) rfl rfl (Nat.le_of_ble_eq_true rfl) dX4_append_54 (fun H locs hP hD hS => ?_)
        have hP : va_P D vwCl (mdW cI am (sset (va_up u7.2.1 3 g10) 4 2 ((u7.2.1 4 2) + 1), u7.2.2)) H := hP
        have hD : va_D A (mdW cI am (sset (va_up u7.2.1 3 g10) 4 2 ((u7.2.1 4 2) + 1), u7.2.2)) := hD
        refine lv_aload_n hx hb dX4_append_57 rfl (lv_at hl 0 rfl) ?_
        refine va_get (D := D) (ci := 4) (v := .int ((u7.2.1 4 2) + 1)) (C := RX4) (T := TX4) (N := 8) hx hb hts hinX4 hown hK hP 0 rfl rfl 6 (by decide) q1 (fun _ h9 => h9) rfl dX4_append_58 ?_
        subst hR
        exact krI hx hb hr hlk hP hD hS dX4_append_61 rfl rfl
      · rw [if_neg c8] at hR hF
        refine lv_iconst (v := 0) hx hb dX4_append_35 (by decide) ?_
        subst hR
        exact krI hx hb hr hlk hP hD hS dX4_append_36 rfl rfl
  · rw [if_pos c1] at hR hF
    refine lv_iconst (v := 1) hx hb dX4_append_11 (by decide) ?_
    refine lv_goto (tgt := 29) hx hb dX4_append_12 (by decide) ?_
    refine kcI (ci := 4) (q0 := 0) (As := [.int 1]) (rest := []) E.1 (cx4_refused E am M 1) hX (cwV 1 hts gX4_append_X4_refused rfl rfl rfl hdX4_refused ⟨Nat.le_of_ble_eq_true rfl, Nat.le_of_ble_eq_true rfl⟩) hKs hK hP hD hS hA _ _ (kw_self _) (kw_self _).symm rfl rfl rfl rfl hl.1 (Nat.le_of_ble_eq_true rfl) dX4_append_29 ⟨Nat.zero_le _, Nat.zero_le _⟩ (fun H locs hP hD hS => ?_)
    have hP : va_P D vwCl (mdW cI am ((fx4_refused M 1).2)) H := hP
    have hD : va_D A (mdW cI am ((fx4_refused M 1).2)) := hD
    generalize eu2 : fx4_refused M 1 = u2 at hR hF hP hD ⊢
    replace hR := bnd_e hR
    replace hF := bnd_p hF
    refine lv_if_eq (tgt := 37) hx hb dX4_append_32 (by decide) (fun c3 => ?_) (fun c3 => ?_)
    · rw [if_pos c3] at hR hF
      refine lv_aload_n hx hb dX4_append_37 rfl (lv_at hl 0 rfl) ?_
      refine va_get (D := D) (ci := 4) (v := .ref (am 4)) (C := RX4) (T := TX4) (N := 8) hx hb hts hinX4 hown hK hP 0 rfl rfl 5 (by decide) q2 (fun _ h9 => h9) rfl dX4_append_38 ?_
      refine lv_aload_n hx hb dX4_append_41 rfl (lv_at hl 0 rfl) ?_
      refine va_get (D := D) (ci := 4) (v := .int (u2.2.1 4 2)) (C := RX4) (T := TX4) (N := 8) hx hb hts hinX4 hown hK hP 0 rfl rfl 6 (by decide) q1 (fun _ h9 => h9) rfl dX4_append_42 ?_
      refine lv_iload_n hx hb dX4_append_45 rfl (lv_at hl 1 rfl) ?_
      have hi4 := hF
      refine va_iast hx hb hK hP hD hS 4 0 rfl rfl hi4 dX4_append_46 (fun H locs hP hD hS => ?_)
      have hP : va_P D vwCl (mdW cI am (va_up u2.2.1 3 (upd (u2.2.1 3) (u2.2.1 4 2).toNatClampNeg x1), u2.2.2)) H := hP
      have hD : va_D A (mdW cI am (va_up u2.2.1 3 (upd (u2.2.1 3) (u2.2.1 4 2).toNatClampNeg x1), u2.2.2)) := hD
      generalize eg5 : upd (u2.2.1 3) (u2.2.1 4 2).toNatClampNeg x1 = g5 at hR hP hD
      replace hR := bnd_e hR
      refine lv_aload_n hx hb dX4_append_47 rfl (lv_at hl 0 rfl) ?_
      refine lv_dup hx hb dX4_append_48 rfl ?_
      refine va_get (D := D) (ci := 4) (v := .int (u2.2.1 4 2)) (C := RX4) (T := TX4) (N := 8) hx hb hts hinX4 hown hK hP 0 rfl rfl 6 (by decide) q1 (fun _ h9 => h9) rfl dX4_append_49 ?_
      refine lv_iconst (v := 1) hx hb dX4_append_52 (by decide) ?_
      refine lv_iadd hx hb dX4_append_53 ?_
      refine va_put (D := D) (ci := 4) (v := .int ((u2.2.1 4 2) + 1)) (ty := .int) (C := RX4) (T := TX4) (N := 8) hx hb hts hinX4 tyX4 tyX4_ok nmX4 hown hK hP hD hS 0 rfl rfl 6 (by decide) q1 (fun _ h9 => h9) rfl (by decide +kernel) rfl rfl (Nat.le_of_ble_eq_true rfl) dX4_append_54 (fun H locs hP hD hS => ?_)
      have hP : va_P D vwCl (mdW cI am (sset (va_up u2.2.1 3 g5) 4 2 ((u2.2.1 4 2) + 1), u2.2.2)) H := hP
      have hD : va_D A (mdW cI am (sset (va_up u2.2.1 3 g5) 4 2 ((u2.2.1 4 2) + 1), u2.2.2)) := hD
      refine lv_aload_n hx hb dX4_append_57 rfl (lv_at hl 0 rfl) ?_
      refine va_get (D := D) (ci := 4) (v := .int ((u2.2.1 4 2) + 1)) (C := RX4) (T := TX4) (N := 8) hx hb hts hinX4 hown hK hP 0 rfl rfl 6 (by decide) q1 (fun _ h9 => h9) rfl dX4_append_58 ?_
      subst hR
      exact krI hx hb hr hlk hP hD hS dX4_append_61 rfl rfl
    · rw [if_neg c3] at hR hF
      refine lv_iconst (v := 0) hx hb dX4_append_35 (by decide) ?_
      subst hR
      exact krI hx hb hr hlk hP hD hS dX4_append_36 rfl rfl

theorem hdX4_clearText : yX4_clearText.cls = RX4 ∧ yX4_clearText.cls ≠ "java/lang/invoke/MethodHandle" ∧ yX4_clearText.cls ≠ "java/lang/invoke/VarHandle" ∧ (parseMethodDescriptor yX4_clearText.desc).map (fun d => d.parameters.length) = some 0 := by decide +kernel
def fx4_clearText (M : Md) : Int32 × (Md) := (M.1 4 2, (sset (sset M.1 4 1 0) 4 2 0, M.2))
set_option maxHeartbeats 4000000 in
set_option maxRecDepth 100000 in
theorem cx4_clearText {l : Launch} {D : va_G} {cI cB cS cJ : ClassId} {K : State → Prop} (E : kE D cI cB cS cJ K) (am : Nat → Nat) (M : Md) : kI l D K yX4_clearText wsX4_clearText 0 0 [.ref (am 0)] (mdW cI am M) (fx4_clearText M).1 (mdW cI am ((fx4_clearText M).2)) := by
  refine kI_of (own := RX4) (cc := cX4_clearText) (maxL := 2) (tys := kty cI cB cS cJ) (fun U h => (E.2 U h).1) (by decide) rfl rfl (Nat.le_of_ble_eq_true rfl) ?_
  intro p e s m below meth c A ls hx hb hr hml hts hown hlk hKs hK hP hD hA hS hl
  have hl : lv_has ls 2 [(0, .ref (am 0))] := hl
  have hX : CallFix p m c cX4_clearText 2 s _ wsX4_clearText RX4 := ⟨hx, hb, hml, hown, hts⟩
  have hinX4 : ∀ w ∈ wsX40, w ∈ wsX4_clearText := fun w h => List.mem_cons_of_mem _ (List.mem_append_right _ h)
  have q1 := hts (.fieldLink RX4 22 "LabelStationModel" "refusal" "I") (List.mem_of_getElem? (i := 1) rfl)
  have q2 := hts (.fieldLink RX4 128 "LabelStationModel" "length" "I") (List.mem_of_getElem? (i := 2) rfl)
  generalize hR : fx4_clearText M = R
  rw [fx4_clearText] at hR
  refine lv_aload_n hx hb dX4_clearText_0 rfl (lv_at hl 0 rfl) ?_
  refine lv_iconst (v := 0) hx hb dX4_clearText_1 (by decide) ?_
  refine va_put (D := D) (ci := 4) (v := .int 0) (ty := .int) (C := RX4) (T := TX4) (N := 8) hx hb hts hinX4 tyX4 tyX4_ok nmX4 hown hK hP hD hS 0 rfl rfl 4 (by decide) q1 (fun _ h9 => h9) rfl (by decide +kernel) rfl rfl (Nat.le_of_ble_eq_true rfl) dX4_clearText_2 (fun H locs hP hD hS => ?_)
  have hP : va_P D vwCl (mdW cI am (sset M.1 4 1 0, M.2)) H := hP
  have hD : va_D A (mdW cI am (sset M.1 4 1 0, M.2)) := hD
  refine lv_aload_n hx hb dX4_clearText_5 rfl (lv_at hl 0 rfl) ?_
  refine va_get (D := D) (ci := 4) (v := .int (M.1 4 2)) (C := RX4) (T := TX4) (N := 8) hx hb hts hinX4 hown hK hP 0 rfl rfl 6 (by decide) q2 (fun _ h9 => h9) rfl dX4_clearText_6 ?_
  refine lv_istore_n (lv' := [(1, .int (M.1 4 2)), (0, .ref (am 0))]) hx hb dX4_clearText_9 rfl hl (by decide) rfl (fun ls hl => ?_)
  refine lv_aload_n hx hb dX4_clearText_10 rfl (lv_at hl 1 rfl) ?_
  refine lv_iconst (v := 0) hx hb dX4_clearText_11 (by decide) ?_
  refine va_put (D := D) (ci := 4) (v := .int 0) (ty := .int) (C := RX4) (T := TX4) (N := 8) hx hb hts hinX4 tyX4 tyX4_ok nmX4 hown hK hP hD hS 0 rfl rfl 6 (by decide) q2 (fun _ h9 => h9) rfl (by decide +kernel) rfl rfl (Nat.le_of_ble_eq_true rfl) dX4_clearText_12 (fun H locs hP hD hS => ?_)
  have hP : va_P D vwCl (mdW cI am (sset (sset M.1 4 1 0) 4 2 0, M.2)) H := hP
  have hD : va_D A (mdW cI am (sset (sset M.1 4 1 0) 4 2 0, M.2)) := hD
  refine lv_iload_n hx hb dX4_clearText_15 rfl (lv_at hl 0 rfl) ?_
  subst hR
  exact krI hx hb hr hlk hP hD hS dX4_clearText_16 rfl rfl

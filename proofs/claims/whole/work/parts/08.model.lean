/-! the model, on its row now: printed by my own program (gen.py) out of the listing -/
theorem hdX4_within : yX4_within.cls = RX4 ∧ yX4_within.cls ≠ "java/lang/invoke/MethodHandle" ∧ yX4_within.cls ≠ "java/lang/invoke/VarHandle" ∧ (parseMethodDescriptor yX4_within.desc).map (fun d => d.parameters.length) = some 3 := by decide +kernel
def fx4_within (x1 : Int32) (x2 : Int32) (x3 : Int32) : Int32 := (if x1 < x2 then 0 else (if x3 < x1 then 0 else 1))
set_option maxHeartbeats 4000000 in
set_option maxRecDepth 100000 in
theorem cx4_within {l : Launch} {D : va_G} {cI cB cS cJ : ClassId} {K : State → Prop} (E : kE D cI cB cS cJ K) (x1 : Int32) (x2 : Int32) (x3 : Int32) : kI l D K yX4_within wsX4_within 0 0 [.int x1, .int x2, .int x3] ([]) (fx4_within x1 x2 x3) ([]) := by
  refine kI_of (own := RX4) (cc := cX4_within) (maxL := 3) (tys := kty cI cB cS cJ) (fun U h => (E.2 U h).1) (by decide) rfl rfl (Nat.le_of_ble_eq_true rfl) ?_
  intro p e s m below meth c A ls hx hb hr hml hts hown hlk hKs hK hP hD hA hS hl
  have hl : lv_has ls 3 [(0, .int x1), (1, .int x2), (2, .int x3)] := hl
  have hX : CallFix p m c cX4_within 3 s _ wsX4_within RX4 := ⟨hx, hb, hml, hown, hts⟩
  generalize hR : fx4_within x1 x2 x3 = R
  rw [fx4_within] at hR
  refine lv_iload_n hx hb dX4_within_0 rfl (lv_at hl 0 rfl) ?_
  refine lv_iload_n hx hb dX4_within_1 rfl (lv_at hl 1 rfl) ?_
  refine lv_icmp_lt (tgt := 14) hx hb dX4_within_2 (by decide) (fun c1 => ?_) (fun c1 => ?_)
  · rw [if_pos c1] at hR
    refine lv_iconst (v := 0) hx hb dX4_within_14 (by decide) ?_
    subst hR
    exact krZ hx hb hr hlk hP hD hS dX4_within_15 (by decide) rfl rfl
  · rw [if_neg c1] at hR
    refine lv_iload_n hx hb dX4_within_5 rfl (lv_at hl 0 rfl) ?_
    refine lv_iload_n hx hb dX4_within_6 rfl (lv_at hl 2 rfl) ?_
    refine lv_icmp_gt (tgt := 14) hx hb dX4_within_7 (by decide) (fun c2 => ?_) (fun c2 => ?_)
    · rw [if_pos c2] at hR
      refine lv_iconst (v := 0) hx hb dX4_within_14 (by decide) ?_
      subst hR
      exact krZ hx hb hr hlk hP hD hS dX4_within_15 (by decide) rfl rfl
    · rw [if_neg c2] at hR
      refine lv_iconst (v := 1) hx hb dX4_within_10 (by decide) ?_
      refine lv_goto (tgt := 15) hx hb dX4_within_11 (by decide) ?_
      subst hR
      exact krZ hx hb hr hlk hP hD hS dX4_within_15 (by decide) rfl rfl

theorem hdX4_thing : yX4_thing.cls = RX4 ∧ yX4_thing.cls ≠ "java/lang/invoke/MethodHandle" ∧ yX4_thing.cls ≠ "java/lang/invoke/VarHandle" ∧ (parseMethodDescriptor yX4_thing.desc).map (fun d => d.parameters.length) = some 2 := by decide +kernel
def fx4_thing (x1 : Int32) (x2 : Int32) : Int32 := (37 + (4 * x1)) + x2
set_option maxHeartbeats 4000000 in
set_option maxRecDepth 100000 in
theorem cx4_thing {l : Launch} {D : va_G} {cI cB cS cJ : ClassId} {K : State → Prop} (E : kE D cI cB cS cJ K) (x1 : Int32) (x2 : Int32) : kI l D K yX4_thing wsX4_thing 0 0 [.int x1, .int x2] ([]) (fx4_thing x1 x2) ([]) := by
  refine kI_of (own := RX4) (cc := cX4_thing) (maxL := 2) (tys := kty cI cB cS cJ) (fun U h => (E.2 U h).1) (by decide) rfl rfl (Nat.le_of_ble_eq_true rfl) ?_
  intro p e s m below meth c A ls hx hb hr hml hts hown hlk hKs hK hP hD hA hS hl
  have hl : lv_has ls 2 [(0, .int x1), (1, .int x2)] := hl
  have hX : CallFix p m c cX4_thing 2 s _ wsX4_thing RX4 := ⟨hx, hb, hml, hown, hts⟩
  generalize hR : fx4_thing x1 x2 = R
  rw [fx4_thing] at hR
  refine lv_bipush (v := 37) hx hb dX4_thing_0 (by decide) ?_
  refine lv_iconst (v := 4) hx hb dX4_thing_2 (by decide) ?_
  refine lv_iload_n hx hb dX4_thing_3 rfl (lv_at hl 0 rfl) ?_
  refine lv_imul hx hb dX4_thing_4 ?_
  refine lv_iadd hx hb dX4_thing_5 ?_
  refine lv_iload_n hx hb dX4_thing_6 rfl (lv_at hl 1 rfl) ?_
  refine lv_iadd hx hb dX4_thing_7 ?_
  subst hR
  exact krI hx hb hr hlk hP hD hS dX4_thing_8 rfl rfl

theorem hdX4_entry : yX4_entry.cls = RX4 ∧ yX4_entry.cls ≠ "java/lang/invoke/MethodHandle" ∧ yX4_entry.cls ≠ "java/lang/invoke/VarHandle" ∧ (parseMethodDescriptor yX4_entry.desc).map (fun d => d.parameters.length) = some 2 := by decide +kernel
def fx4_entry (x1 : Int32) (x2 : Int32) : Int32 := (118 + (6 * x1)) + x2
set_option maxHeartbeats 4000000 in
set_option maxRecDepth 100000 in
theorem cx4_entry {l : Launch} {D : va_G} {cI cB cS cJ : ClassId} {K : State → Prop} (E : kE D cI cB cS cJ K) (x1 : Int32) (x2 : Int32) : kI l D K yX4_entry wsX4_entry 0 0 [.int x1, .int x2] ([]) (fx4_entry x1 x2) ([]) := by
  refine kI_of (own := RX4) (cc := cX4_entry) (maxL := 2) (tys := kty cI cB cS cJ) (fun U h => (E.2 U h).1) (by decide) rfl rfl (Nat.le_of_ble_eq_true rfl) ?_
  intro p e s m below meth c A ls hx hb hr hml hts hown hlk hKs hK hP hD hA hS hl
  have hl : lv_has ls 2 [(0, .int x1), (1, .int x2)] := hl
  have hX : CallFix p m c cX4_entry 2 s _ wsX4_entry RX4 := ⟨hx, hb, hml, hown, hts⟩
  generalize hR : fx4_entry x1 x2 = R
  rw [fx4_entry] at hR
  refine lv_bipush (v := 118) hx hb dX4_entry_0 (by decide) ?_
  refine lv_bipush (v := 6) hx hb dX4_entry_2 (by decide) ?_
  refine lv_iload_n hx hb dX4_entry_4 rfl (lv_at hl 0 rfl) ?_
  refine lv_imul hx hb dX4_entry_5 ?_
  refine lv_iadd hx hb dX4_entry_6 ?_
  refine lv_iload_n hx hb dX4_entry_7 rfl (lv_at hl 1 rfl) ?_
  refine lv_iadd hx hb dX4_entry_8 ?_
  subst hR
  exact krI hx hb hr hlk hP hD hS dX4_entry_9 rfl rfl

theorem hdX4_isSetting : yX4_isSetting.cls = RX4 ∧ yX4_isSetting.cls ≠ "java/lang/invoke/MethodHandle" ∧ yX4_isSetting.cls ≠ "java/lang/invoke/VarHandle" ∧ (parseMethodDescriptor yX4_isSetting.desc).map (fun d => d.parameters.length) = some 2 := by decide +kernel
def fx4_isSetting (x1 : Int32) (x2 : Int32) : Int32 := (if x1 = 0 then fx4_within x2 1 10 else (if x1 = 1 then fx4_within x2 1 100 else (if x1 = 2 then fx4_within x2 1 50 else (if x1 = 3 then fx4_within x2 1 100 else (if x1 = 4 then fx4_within x2 1 20 else (if x1 = 5 then fx4_within x2 0 20 else (if x1 = 6 then (if (fx4_within x2 0 1000) = 0 then 0 else 1) else 0)))))))
def sx4_isSetting (x1 : Int32) (x2 : Int32) : Prop := (if x1 = 0 then kbo (fx4_within x2 1 10) else (if x1 = 1 then kbo (fx4_within x2 1 100) else (if x1 = 2 then kbo (fx4_within x2 1 50) else (if x1 = 3 then kbo (fx4_within x2 1 100) else (if x1 = 4 then kbo (fx4_within x2 1 20) else (if x1 = 5 then kbo (fx4_within x2 0 20) else True))))))
set_option maxHeartbeats 4000000 in
set_option maxRecDepth 100000 in
theorem cx4_isSetting {l : Launch} {D : va_G} {cI cB cS cJ : ClassId} {K : State → Prop} (E : kE D cI cB cS cJ K) (x1 : Int32) (x2 : Int32) (hF : sx4_isSetting x1 x2) : kI l D K yX4_isSetting wsX4_isSetting 1 22 [.int x1, .int x2] ([]) (fx4_isSetting x1 x2) ([]) := by
  refine kI_of (own := RX4) (cc := cX4_isSetting) (maxL := 2) (tys := kty cI cB cS cJ) (fun U h => (E.2 U h).1) (by decide) rfl rfl (Nat.le_of_ble_eq_true rfl) ?_
  intro p e s m below meth c A ls hx hb hr hml hts hown hlk hKs hK hP hD hA hS hl
  have hl : lv_has ls 2 [(0, .int x1), (1, .int x2)] := hl
  have hX : CallFix p m c cX4_isSetting 2 s _ wsX4_isSetting RX4 := ⟨hx, hb, hml, hown, hts⟩
  generalize hR : fx4_isSetting x1 x2 = R
  rw [fx4_isSetting] at hR
  rw [sx4_isSetting] at hF
  refine lv_iload_n hx hb dX4_isSetting_0 rfl (lv_at hl 0 rfl) ?_
  rcases Classical.em (x1 = 0) with c1 | c1
  · rw [if_pos c1] at hR hF
    refine lv_tableIn (tgt := 40) (off := 39) hx hb dX4_isSetting_1 (by rw [c1]; decide) (by rw [c1]; decide) (by rw [c1]; rfl) (by decide) ?_
    refine lv_iload_n hx hb dX4_isSetting_40 rfl (lv_at hl 1 rfl) ?_
    refine lv_iconst (v := 1) hx hb dX4_isSetting_41 (by decide) ?_
    refine lv_bipush (v := 10) hx hb dX4_isSetting_42 (by decide) ?_
    refine kcsI (As := [.int x2, .int 1, .int 10]) (rest := []) E.1 (cx4_within E x2 1 10) hX (va_cwS 3 hts gX4_isSetting_X4_within rfl rfl rfl hdX4_within.2 ⟨Nat.le_of_ble_eq_true rfl, Nat.le_of_ble_eq_true rfl⟩) hKs hP hD hS hA _ _ (kw_nil _) (kw_nil _).symm rfl rfl hl.1 (Nat.le_of_ble_eq_true rfl) dX4_isSetting_44 ⟨Nat.zero_le _, Nat.zero_le _⟩ (fun H locs hP hD hS => ?_)
    subst hR
    exact krZ hx hb hr hlk hP hD hS dX4_isSetting_47 (kbo_n hF) rfl rfl
  · rw [if_neg c1] at hR hF
    rcases Classical.em (x1 = 1) with c3 | c3
    · rw [if_pos c3] at hR hF
      refine lv_tableIn (tgt := 48) (off := 47) hx hb dX4_isSetting_1 (by rw [c3]; decide) (by rw [c3]; decide) (by rw [c3]; rfl) (by decide) ?_
      refine lv_iload_n hx hb dX4_isSetting_48 rfl (lv_at hl 1 rfl) ?_
      refine lv_iconst (v := 1) hx hb dX4_isSetting_49 (by decide) ?_
      refine lv_bipush (v := 100) hx hb dX4_isSetting_50 (by decide) ?_
      refine kcsI (As := [.int x2, .int 1, .int 100]) (rest := []) E.1 (cx4_within E x2 1 100) hX (va_cwS 3 hts gX4_isSetting_X4_within rfl rfl rfl hdX4_within.2 ⟨Nat.le_of_ble_eq_true rfl, Nat.le_of_ble_eq_true rfl⟩) hKs hP hD hS hA _ _ (kw_nil _) (kw_nil _).symm rfl rfl hl.1 (Nat.le_of_ble_eq_true rfl) dX4_isSetting_52 ⟨Nat.zero_le _, Nat.zero_le _⟩ (fun H locs hP hD hS => ?_)
      subst hR
      exact krZ hx hb hr hlk hP hD hS dX4_isSetting_55 (kbo_n hF) rfl rfl
    · rw [if_neg c3] at hR hF
      rcases Classical.em (x1 = 2) with c5 | c5
      · rw [if_pos c5] at hR hF
        refine lv_tableIn (tgt := 56) (off := 55) hx hb dX4_isSetting_1 (by rw [c5]; decide) (by rw [c5]; decide) (by rw [c5]; rfl) (by decide) ?_
        refine lv_iload_n hx hb dX4_isSetting_56 rfl (lv_at hl 1 rfl) ?_
        refine lv_iconst (v := 1) hx hb dX4_isSetting_57 (by decide) ?_
        refine lv_bipush (v := 50) hx hb dX4_isSetting_58 (by decide) ?_
        refine kcsI (As := [.int x2, .int 1, .int 50]) (rest := []) E.1 (cx4_within E x2 1 50) hX (va_cwS 3 hts gX4_isSetting_X4_within rfl rfl rfl hdX4_within.2 ⟨Nat.le_of_ble_eq_true rfl, Nat.le_of_ble_eq_true rfl⟩) hKs hP hD hS hA _ _ (kw_nil _) (kw_nil _).symm rfl rfl hl.1 (Nat.le_of_ble_eq_true rfl) dX4_isSetting_60 ⟨Nat.zero_le _, Nat.zero_le _⟩ (fun H locs hP hD hS => ?_)
        subst hR
        exact krZ hx hb hr hlk hP hD hS dX4_isSetting_63 (kbo_n hF) rfl rfl
      · rw [if_neg c5] at hR hF
        rcases Classical.em (x1 = 3) with c7 | c7
        · rw [if_pos c7] at hR hF
          refine lv_tableIn (tgt := 48) (off := 47) hx hb dX4_isSetting_1 (by rw [c7]; decide) (by rw [c7]; decide) (by rw [c7]; rfl) (by decide) ?_
          refine lv_iload_n hx hb dX4_isSetting_48 rfl (lv_at hl 1 rfl) ?_
          refine lv_iconst (v := 1) hx hb dX4_isSetting_49 (by decide) ?_
          refine lv_bipush (v := 100) hx hb dX4_isSetting_50 (by decide) ?_
          refine kcsI (As := [.int x2, .int 1, .int 100]) (rest := []) E.1 (cx4_within E x2 1 100) hX (va_cwS 3 hts gX4_isSetting_X4_within rfl rfl rfl hdX4_within.2 ⟨Nat.le_of_ble_eq_true rfl, Nat.le_of_ble_eq_true rfl⟩) hKs hP hD hS hA _ _ (kw_nil _) (kw_nil _).symm rfl rfl hl.1 (Nat.le_of_ble_eq_true rfl) dX4_isSetting_52 ⟨Nat.zero_le _, Nat.zero_le _⟩ (fun H locs hP hD hS => ?_)
          subst hR
          exact krZ hx hb hr hlk hP hD hS dX4_isSetting_55 (kbo_n hF) rfl rfl
        · rw [if_neg c7] at hR hF
          rcases Classical.em (x1 = 4) with c9 | c9
          · rw [if_pos c9] at hR hF
            refine lv_tableIn (tgt := 64) (off := 63) hx hb dX4_isSetting_1 (by rw [c9]; decide) (by rw [c9]; decide) (by rw [c9]; rfl) (by decide) ?_
            refine lv_iload_n hx hb dX4_isSetting_64 rfl (lv_at hl 1 rfl) ?_
            refine lv_iconst (v := 1) hx hb dX4_isSetting_65 (by decide) ?_
            refine lv_bipush (v := 20) hx hb dX4_isSetting_66 (by decide) ?_
            refine kcsI (As := [.int x2, .int 1, .int 20]) (rest := []) E.1 (cx4_within E x2 1 20) hX (va_cwS 3 hts gX4_isSetting_X4_within rfl rfl rfl hdX4_within.2 ⟨Nat.le_of_ble_eq_true rfl, Nat.le_of_ble_eq_true rfl⟩) hKs hP hD hS hA _ _ (kw_nil _) (kw_nil _).symm rfl rfl hl.1 (Nat.le_of_ble_eq_true rfl) dX4_isSetting_68 ⟨Nat.zero_le _, Nat.zero_le _⟩ (fun H locs hP hD hS => ?_)
            subst hR
            exact krZ hx hb hr hlk hP hD hS dX4_isSetting_71 (kbo_n hF) rfl rfl
          · rw [if_neg c9] at hR hF
            rcases Classical.em (x1 = 5) with c11 | c11
            · rw [if_pos c11] at hR hF
              refine lv_tableIn (tgt := 72) (off := 71) hx hb dX4_isSetting_1 (by rw [c11]; decide) (by rw [c11]; decide) (by rw [c11]; rfl) (by decide) ?_
              refine lv_iload_n hx hb dX4_isSetting_72 rfl (lv_at hl 1 rfl) ?_
              refine lv_iconst (v := 0) hx hb dX4_isSetting_73 (by decide) ?_
              refine lv_bipush (v := 20) hx hb dX4_isSetting_74 (by decide) ?_
              refine kcsI (As := [.int x2, .int 0, .int 20]) (rest := []) E.1 (cx4_within E x2 0 20) hX (va_cwS 3 hts gX4_isSetting_X4_within rfl rfl rfl hdX4_within.2 ⟨Nat.le_of_ble_eq_true rfl, Nat.le_of_ble_eq_true rfl⟩) hKs hP hD hS hA _ _ (kw_nil _) (kw_nil _).symm rfl rfl hl.1 (Nat.le_of_ble_eq_true rfl) dX4_isSetting_76 ⟨Nat.zero_le _, Nat.zero_le _⟩ (fun H locs hP hD hS => ?_)
              subst hR
              exact krZ hx hb hr hlk hP hD hS dX4_isSetting_79 (kbo_n hF) rfl rfl
            · rw [if_neg c11] at hR hF
              refine lv_tableOut (tgt := 80) hx hb dX4_isSetting_1 (ksw_out6 c1 c3 c5 c7 c9 c11) (by decide) ?_
              refine lv_iload_n hx hb dX4_isSetting_80 rfl (lv_at hl 0 rfl) ?_
              refine lv_bipush (v := 6) hx hb dX4_isSetting_81 (by decide) ?_
              refine lv_icmp_ne (tgt := 101) hx hb dX4_isSetting_83 (by decide) (fun c13 => ?_) (fun c13 => ?_)
              · rw [if_neg c13] at hR
                refine lv_iconst (v := 0) hx hb dX4_isSetting_101 (by decide) ?_
                subst hR
                exact krZ hx hb hr hlk hP hD hS dX4_isSetting_102 (by decide) rfl rfl
              · rw [if_pos c13] at hR
                refine lv_iload_n hx hb dX4_isSetting_86 rfl (lv_at hl 1 rfl) ?_
                refine lv_iconst (v := 0) hx hb dX4_isSetting_87 (by decide) ?_
                refine lv_sipush (v := 1000) hx hb dX4_isSetting_88 (by decide) ?_
                refine kcsI (As := [.int x2, .int 0, .int 1000]) (rest := []) E.1 (cx4_within E x2 0 1000) hX (va_cwS 3 hts gX4_isSetting_X4_within rfl rfl rfl hdX4_within.2 ⟨Nat.le_of_ble_eq_true rfl, Nat.le_of_ble_eq_true rfl⟩) hKs hP hD hS hA _ _ (kw_nil _) (kw_nil _).symm rfl rfl hl.1 (Nat.le_of_ble_eq_true rfl) dX4_isSetting_91 ⟨Nat.zero_le _, Nat.zero_le _⟩ (fun H locs hP hD hS => ?_)
                refine lv_if_eq (tgt := 101) hx hb dX4_isSetting_94 (by decide) (fun c14 => ?_) (fun c14 => ?_)
                · rw [if_pos c14] at hR
                  refine lv_iconst (v := 0) hx hb dX4_isSetting_101 (by decide) ?_
                  subst hR
                  exact krZ hx hb hr hlk hP hD hS dX4_isSetting_102 (by decide) rfl rfl
                · rw [if_neg c14] at hR
                  refine lv_iconst (v := 1) hx hb dX4_isSetting_97 (by decide) ?_
                  refine lv_goto (tgt := 102) hx hb dX4_isSetting_98 (by decide) ?_
                  subst hR
                  exact krZ hx hb hr hlk hP hD hS dX4_isSetting_102 (by decide) rfl rfl

theorem hdX4_counts : yX4_counts.cls = RX4 ∧ yX4_counts.cls ≠ "java/lang/invoke/MethodHandle" ∧ yX4_counts.cls ≠ "java/lang/invoke/VarHandle" ∧ (parseMethodDescriptor yX4_counts.desc).map (fun d => d.parameters.length) = some 1 := by decide +kernel
def fx4_counts (g : (Nat → Int32)) (x1 : Int32) : (Nat → Int32) := (bnd (upd g (17 + x1).toNatClampNeg ((g (17 + x1).toNatClampNeg) + 1)) (fun g3 => g3))
def sx4_counts (g : (Nat → Int32)) (x1 : Int32) : Prop := (vp_in (17 + x1) 1203 ∧ vp_in (17 + x1) 1203)
set_option maxHeartbeats 4000000 in
set_option maxRecDepth 100000 in
theorem cx4_counts {l : Launch} {D : va_G} {cI cB cS cJ : ClassId} {K : State → Prop} (E : kE D cI cB cS cJ K) (am : Nat → Nat) (sv rf ln : Int32) (hs : Int64) (g : (Nat → Int32)) (x1 : Int32) (hF : sx4_counts g x1) : kV l D K yX4_counts wsX4_counts 0 0 [.ref (am 0), .int x1] (mnW cI am sv rf ln hs g)  (mnW cI am sv rf ln hs (fx4_counts g x1)) := by
  refine kV_of (own := RX4) (cc := cX4_counts) (maxL := 2) (tys := kty cI cB cS cJ) (fun U h => (E.2 U h).1) (by decide) rfl rfl (Nat.le_of_ble_eq_true rfl) ?_
  intro p e s m below meth c A ls hx hb hr hml hts hown hlk hKs hK hP hD hA hS hl
  have hl : lv_has ls 2 [(0, .ref (am 0)), (1, .int x1)] := hl
  have hX : CallFix p m c cX4_counts 2 s _ wsX4_counts RX4 := ⟨hx, hb, hml, hown, hts⟩
  have hinX4 : ∀ w ∈ wsX40, w ∈ wsX4_counts := fun w h => List.mem_cons_of_mem _ (List.mem_append_right _ h)
  have q1 := hts (.fieldLink RX4 7 "LabelStationModel" "now" "[I") (List.mem_of_getElem? (i := 1) rfl)
  generalize hR : fx4_counts g x1 = R
  rw [fx4_counts] at hR
  rw [sx4_counts] at hF
  refine lv_aload_n hx hb dX4_counts_0 rfl (lv_at hl 0 rfl) ?_
  refine va_get (D := D) (ci := 4) (v := .ref (am 1)) (C := RX4) (T := TX4) (N := 8) hx hb hts hinX4 hown hK hP 0 rfl rfl 0 (by decide) q1 (fun _ h9 => h9) rfl dX4_counts_1 ?_
  refine lv_bipush (v := 17) hx hb dX4_counts_4 (by decide) ?_
  refine lv_iload_n hx hb dX4_counts_6 rfl (lv_at hl 1 rfl) ?_
  refine lv_iadd hx hb dX4_counts_7 ?_
  refine lv_dup2_11 hx hb dX4_counts_8 rfl rfl ?_
  obtain ⟨hi1, hF⟩ := hF
  refine va_iald hx hb hK hP 1 0 rfl rfl hi1 dX4_counts_9 ?_
  refine lv_iconst (v := 1) hx hb dX4_counts_10 (by decide) ?_
  refine lv_iadd hx hb dX4_counts_11 ?_
  have hi2 := hF
  refine va_iast hx hb hK hP hD hS 1 0 rfl rfl hi2 dX4_counts_12 (fun H locs hP hD hS => ?_)
  have hP : va_P D vwCl (mnW cI am sv rf ln hs (upd g (17 + x1).toNatClampNeg ((g (17 + x1).toNatClampNeg) + 1))) H := hP
  have hD : va_D A (mnW cI am sv rf ln hs (upd g (17 + x1).toNatClampNeg ((g (17 + x1).toNatClampNeg) + 1))) := hD
  generalize eg3 : upd g (17 + x1).toNatClampNeg ((g (17 + x1).toNatClampNeg) + 1) = g3 at hR hP hD
  replace hR := bnd_e hR
  subst hR
  exact krV hx hb hr hlk hP hD hS dX4_counts_13 rfl

theorem hdX4_drops : yX4_drops.cls = RX4 ∧ yX4_drops.cls ≠ "java/lang/invoke/MethodHandle" ∧ yX4_drops.cls ≠ "java/lang/invoke/VarHandle" ∧ (parseMethodDescriptor yX4_drops.desc).map (fun d => d.parameters.length) = some 4 := by decide +kernel
def fx4_drops_L18 : Nat → Int32 → Int32 → Int32 → Int32 → Int32 → (Nat → Int32) → (Nat → Int32)
  | 0, _, _, _, _, _, g => g
  | n18 + 1, y1, y2, y3, y4, y5, g => (if (y2 + (y3 * (g (y1).toNatClampNeg))) ≤ y5 then g else (bnd (upd g (y5).toNatClampNeg (g (y5 + y3).toNatClampNeg)) (fun g19005 => fx4_drops_L18 n18 y1 y2 y3 y4 (y5 + 1) g19005)))
def sx4_drops_L18 : Nat → Int32 → Int32 → Int32 → Int32 → Int32 → (Nat → Int32) → Prop
  | 0, _, _, _, _, _, _ => False
  | n18 + 1, y1, y2, y3, y4, y5, g => (vp_in (y1) 1203 ∧ (if (y2 + (y3 * (g (y1).toNatClampNeg))) ≤ y5 then True else (vp_in (y5 + y3) 1203 ∧ (vp_in (y5) 1203 ∧ (bnd (upd g (y5).toNatClampNeg (g (y5 + y3).toNatClampNeg)) (fun g19005 => sx4_drops_L18 n18 y1 y2 y3 y4 (y5 + 1) g19005))))))
def fx4_drops (g : (Nat → Int32)) (x1 : Int32) (x2 : Int32) (x3 : Int32) (x4 : Int32) : (Nat → Int32) := (bnd (upd g (x1).toNatClampNeg ((g (x1).toNatClampNeg) - 1)) (fun g3 => fx4_drops_L18 kfu x1 x2 x3 x4 (x2 + (x3 * x4)) g3))
def sx4_drops (g : (Nat → Int32)) (x1 : Int32) (x2 : Int32) (x3 : Int32) (x4 : Int32) : Prop := (vp_in (x1) 1203 ∧ (vp_in (x1) 1203 ∧ (bnd (upd g (x1).toNatClampNeg ((g (x1).toNatClampNeg) - 1)) (fun g3 => sx4_drops_L18 kfu x1 x2 x3 x4 (x2 + (x3 * x4)) g3))))
set_option maxHeartbeats 4000000 in
set_option maxRecDepth 100000 in
theorem cx4_drops {l : Launch} {D : va_G} {cI cB cS cJ : ClassId} {K : State → Prop} (E : kE D cI cB cS cJ K) (am : Nat → Nat) (sv rf ln : Int32) (hs : Int64) (g : (Nat → Int32)) (x1 : Int32) (x2 : Int32) (x3 : Int32) (x4 : Int32) (hF : sx4_drops g x1 x2 x3 x4) : kV l D K yX4_drops wsX4_drops 0 0 [.ref (am 0), .int x1, .int x2, .int x3, .int x4] (mnW cI am sv rf ln hs g)  (mnW cI am sv rf ln hs (fx4_drops g x1 x2 x3 x4)) := by
  refine kV_of (own := RX4) (cc := cX4_drops) (maxL := 6) (tys := kty cI cB cS cJ) (fun U h => (E.2 U h).1) (by decide) rfl rfl (Nat.le_of_ble_eq_true rfl) ?_
  intro p e s m below meth c A ls hx hb hr hml hts hown hlk hKs hK hP hD hA hS hl
  have hl : lv_has ls 6 [(0, .ref (am 0)), (1, .int x1), (2, .int x2), (3, .int x3), (4, .int x4)] := hl
  have hX : CallFix p m c cX4_drops 6 s _ wsX4_drops RX4 := ⟨hx, hb, hml, hown, hts⟩
  have hinX4 : ∀ w ∈ wsX40, w ∈ wsX4_drops := fun w h => List.mem_cons_of_mem _ (List.mem_append_right _ h)
  have q1 := hts (.fieldLink RX4 7 "LabelStationModel" "now" "[I") (List.mem_of_getElem? (i := 1) rfl)
  generalize hR : fx4_drops g x1 x2 x3 x4 = R
  rw [fx4_drops] at hR
  rw [sx4_drops] at hF
  refine lv_aload_n hx hb dX4_drops_0 rfl (lv_at hl 0 rfl) ?_
  refine va_get (D := D) (ci := 4) (v := .ref (am 1)) (C := RX4) (T := TX4) (N := 8) hx hb hts hinX4 hown hK hP 0 rfl rfl 0 (by decide) q1 (fun _ h9 => h9) rfl dX4_drops_1 ?_
  refine lv_iload_n hx hb dX4_drops_4 rfl (lv_at hl 1 rfl) ?_
  refine lv_dup2_11 hx hb dX4_drops_5 rfl rfl ?_
  obtain ⟨hi1, hF⟩ := hF
  refine va_iald hx hb hK hP 1 0 rfl rfl hi1 dX4_drops_6 ?_
  refine lv_iconst (v := 1) hx hb dX4_drops_7 (by decide) ?_
  refine lv_isub hx hb dX4_drops_8 ?_
  obtain ⟨hi2, hF⟩ := hF
  refine va_iast hx hb hK hP hD hS 1 0 rfl rfl hi2 dX4_drops_9 (fun H locs hP hD hS => ?_)
  have hP : va_P D vwCl (mnW cI am sv rf ln hs (upd g (x1).toNatClampNeg ((g (x1).toNatClampNeg) - 1))) H := hP
  have hD : va_D A (mnW cI am sv rf ln hs (upd g (x1).toNatClampNeg ((g (x1).toNatClampNeg) - 1))) := hD
  generalize eg3 : upd g (x1).toNatClampNeg ((g (x1).toNatClampNeg) - 1) = g3 at hR hP hD hF
  replace hR := bnd_e hR
  replace hF := bnd_p hF
  refine lv_iload_n hx hb dX4_drops_10 rfl (lv_at hl 2 rfl) ?_
  refine lv_iload_n hx hb dX4_drops_11 rfl (lv_at hl 3 rfl) ?_
  refine lv_iload hx hb dX4_drops_12 (lv_at hl 4 rfl) ?_
  refine lv_imul hx hb dX4_drops_14 ?_
  refine lv_iadd hx hb dX4_drops_15 ?_
  refine lv_istore (lv' := [(5, .int (x2 + (x3 * x4))), (0, .ref (am 0)), (1, .int x1), (2, .int x2), (3, .int x3), (4, .int x4)]) hx hb dX4_drops_16 hl (by decide) rfl (fun ls hl => ?_)
  have loop18 : ∀ (n18 : Nat) (y1 : Int32) (y2 : Int32) (y3 : Int32) (y4 : Int32) (y5 : Int32) (g : (Nat → Int32)) (H : Heap) (locs : List Loc) (ls : Array Slot), fx4_drops_L18 n18 y1 y2 y3 y4 y5 g = R → sx4_drops_L18 n18 y1 y2 y3 y4 y5 g → va_P D vwCl (mnW cI am sv rf ln hs g) H → va_D A (mnW cI am sv rf ln hs g) → va_S A s.heap H locs → lv_has ls 6 [(1, .int y1), (2, .int y2), (3, .int y3), (4, .int y4), (5, .int y5), (0, .ref (am 0))] → W p l e (kRm 0 0) s m ([.ref (am 0), .int x1, .int x2, .int x3, .int x4] : List Value).toArray below meth c H locs 0 0 (kQV D below (mnW cI am sv rf ln hs R) A ([.ref (am 0), .int x1, .int x2, .int x3, .int x4] : List Value).toArray s) (F0 m 18 ls []) := by
    intro n18
    induction n18 with
    | zero => intro y1 y2 y3 y4 y5 g H locs ls hR hF; exact hF.elim
    | succ n18 ih18 =>
      intro y1 y2 y3 y4 y5 g H locs ls hR hF hP hD hS hl
      rw [fx4_drops_L18] at hR
      rw [sx4_drops_L18] at hF
      refine lv_iload hx hb dX4_drops_18 (lv_at hl 4 rfl) ?_
      refine lv_iload_n hx hb dX4_drops_20 rfl (lv_at hl 1 rfl) ?_
      refine lv_iload_n hx hb dX4_drops_21 rfl (lv_at hl 2 rfl) ?_
      refine lv_aload_n hx hb dX4_drops_22 rfl (lv_at hl 5 rfl) ?_
      refine va_get (D := D) (ci := 4) (v := .ref (am 1)) (C := RX4) (T := TX4) (N := 8) hx hb hts hinX4 hown hK hP 0 rfl rfl 0 (by decide) q1 (fun _ h9 => h9) rfl dX4_drops_23 ?_
      refine lv_iload_n hx hb dX4_drops_26 rfl (lv_at hl 0 rfl) ?_
      obtain ⟨hi19001, hF⟩ := hF
      refine va_iald hx hb hK hP 1 0 rfl rfl hi19001 dX4_drops_27 ?_
      refine lv_imul hx hb dX4_drops_28 ?_
      refine lv_iadd hx hb dX4_drops_29 ?_
      refine lv_icmp_ge (tgt := 55) hx hb dX4_drops_30 (by decide) (fun c19002 => ?_) (fun c19002 => ?_)
      · rw [if_pos c19002] at hR hF
        subst hR
        exact krV hx hb hr hlk hP hD hS dX4_drops_55 rfl
      · rw [if_neg c19002] at hR hF
        refine lv_aload_n hx hb dX4_drops_33 rfl (lv_at hl 5 rfl) ?_
        refine va_get (D := D) (ci := 4) (v := .ref (am 1)) (C := RX4) (T := TX4) (N := 8) hx hb hts hinX4 hown hK hP 0 rfl rfl 0 (by decide) q1 (fun _ h9 => h9) rfl dX4_drops_34 ?_
        refine lv_iload hx hb dX4_drops_37 (lv_at hl 4 rfl) ?_
        refine lv_aload_n hx hb dX4_drops_39 rfl (lv_at hl 5 rfl) ?_
        refine va_get (D := D) (ci := 4) (v := .ref (am 1)) (C := RX4) (T := TX4) (N := 8) hx hb hts hinX4 hown hK hP 0 rfl rfl 0 (by decide) q1 (fun _ h9 => h9) rfl dX4_drops_40 ?_
        refine lv_iload hx hb dX4_drops_43 (lv_at hl 4 rfl) ?_
        refine lv_iload_n hx hb dX4_drops_45 rfl (lv_at hl 2 rfl) ?_
        refine lv_iadd hx hb dX4_drops_46 ?_
        obtain ⟨hi19003, hF⟩ := hF
        refine va_iald hx hb hK hP 1 0 rfl rfl hi19003 dX4_drops_47 ?_
        obtain ⟨hi19004, hF⟩ := hF
        refine va_iast hx hb hK hP hD hS 1 0 rfl rfl hi19004 dX4_drops_48 (fun H locs hP hD hS => ?_)
        have hP : va_P D vwCl (mnW cI am sv rf ln hs (upd g (y5).toNatClampNeg (g (y5 + y3).toNatClampNeg))) H := hP
        have hD : va_D A (mnW cI am sv rf ln hs (upd g (y5).toNatClampNeg (g (y5 + y3).toNatClampNeg))) := hD
        generalize eg19005 : upd g (y5).toNatClampNeg (g (y5 + y3).toNatClampNeg) = g19005 at hR hP hD hF
        replace hR := bnd_e hR
        replace hF := bnd_p hF
        refine lv_iinc (v := y5 + 1) (lv' := [(5, .int (y5 + 1)), (1, .int y1), (2, .int y2), (3, .int y3), (4, .int y4), (0, .ref (am 0))]) hx hb dX4_drops_49 hl (k := 4) rfl rfl (by decide) rfl (fun ls hl => ?_)
        refine lv_goto (tgt := 18) hx hb dX4_drops_52 (by decide) ?_
        exact ih18 y1 y2 y3 y4 (y5 + 1) g19005 _ _ ls hR hF hP hD hS (lv_sub hl [1, 2, 3, 4, 0, 5] rfl)
  exact loop18 kfu x1 x2 x3 x4 (x2 + (x3 * x4)) g3 _ _ ls hR hF hP hD hS (lv_sub hl [2, 3, 4, 5, 0, 1] rfl)

theorem hdX4_itemOf : yX4_itemOf.cls = RX4 ∧ yX4_itemOf.cls ≠ "java/lang/invoke/MethodHandle" ∧ yX4_itemOf.cls ≠ "java/lang/invoke/VarHandle" ∧ (parseMethodDescriptor yX4_itemOf.desc).map (fun d => d.parameters.length) = some 1 := by decide +kernel
def fx4_itemOf_L4 (g : (Nat → Int32)) : Nat → Int32 → Int32 → Int32 → Int32
  | 0, _, _, _ => 0
  | n4 + 1, y1, y2, y3 => (if (g 36) ≤ y3 then y2 else (if (g (fx4_thing y3 0).toNatClampNeg) = y1 then fx4_itemOf_L4 g n4 y1 y3 (y3 + 1) else fx4_itemOf_L4 g n4 y1 y2 (y3 + 1)))
def sx4_itemOf_L4 (g : (Nat → Int32)) : Nat → Int32 → Int32 → Int32 → Prop
  | 0, _, _, _ => False
  | n4 + 1, y1, y2, y3 => (if (g 36) ≤ y3 then True else (vp_in (fx4_thing y3 0) 1203 ∧ (if (g (fx4_thing y3 0).toNatClampNeg) = y1 then sx4_itemOf_L4 g n4 y1 y3 (y3 + 1) else sx4_itemOf_L4 g n4 y1 y2 (y3 + 1))))
def fx4_itemOf (g : (Nat → Int32)) (x1 : Int32) : Int32 := fx4_itemOf_L4 g kfu x1 (-1) 0
def sx4_itemOf (g : (Nat → Int32)) (x1 : Int32) : Prop := sx4_itemOf_L4 g kfu x1 (-1) 0
set_option maxHeartbeats 4000000 in
set_option maxRecDepth 100000 in
theorem cx4_itemOf {l : Launch} {D : va_G} {cI cB cS cJ : ClassId} {K : State → Prop} (E : kE D cI cB cS cJ K) (am : Nat → Nat) (sv rf ln : Int32) (hs : Int64) (g : (Nat → Int32)) (x1 : Int32) (hF : sx4_itemOf g x1) : kI l D K yX4_itemOf wsX4_itemOf 1 21 [.ref (am 0), .int x1] (mnW cI am sv rf ln hs g) (fx4_itemOf g x1) (mnW cI am sv rf ln hs g) := by
  refine kI_of (own := RX4) (cc := cX4_itemOf) (maxL := 4) (tys := kty cI cB cS cJ) (fun U h => (E.2 U h).1) (by decide) rfl rfl (Nat.le_of_ble_eq_true rfl) ?_
  intro p e s m below meth c A ls hx hb hr hml hts hown hlk hKs hK hP hD hA hS hl
  have hl : lv_has ls 4 [(0, .ref (am 0)), (1, .int x1)] := hl
  have hX : CallFix p m c cX4_itemOf 4 s _ wsX4_itemOf RX4 := ⟨hx, hb, hml, hown, hts⟩
  have hinX4 : ∀ w ∈ wsX40, w ∈ wsX4_itemOf := fun w h => List.mem_cons_of_mem _ (List.mem_append_right _ h)
  have q1 := hts (.fieldLink RX4 7 "LabelStationModel" "now" "[I") (List.mem_of_getElem? (i := 1) rfl)
  generalize hR : fx4_itemOf g x1 = R
  rw [fx4_itemOf] at hR
  rw [sx4_itemOf] at hF
  refine lv_iconst (v := (-1)) hx hb dX4_itemOf_0 (by decide) ?_
  refine lv_istore_n (lv' := [(2, .int (-1)), (0, .ref (am 0)), (1, .int x1)]) hx hb dX4_itemOf_1 rfl hl (by decide) rfl (fun ls hl => ?_)
  refine lv_iconst (v := 0) hx hb dX4_itemOf_2 (by decide) ?_
  refine lv_istore_n (lv' := [(3, .int 0), (2, .int (-1)), (0, .ref (am 0)), (1, .int x1)]) hx hb dX4_itemOf_3 rfl hl (by decide) rfl (fun ls hl => ?_)
  have loop4 : ∀ (n4 : Nat) (y1 : Int32) (y2 : Int32) (y3 : Int32) (H : Heap) (locs : List Loc) (ls : Array Slot), fx4_itemOf_L4 g n4 y1 y2 y3 = R → sx4_itemOf_L4 g n4 y1 y2 y3 → va_P D vwCl (mnW cI am sv rf ln hs g) H → va_D A (mnW cI am sv rf ln hs g) → va_S A s.heap H locs → lv_has ls 4 [(1, .int y1), (2, .int y2), (3, .int y3), (0, .ref (am 0))] → W p l e (kRm 1 21) s m ([.ref (am 0), .int x1] : List Value).toArray below meth c H locs 0 0 (kQI D below R (mnW cI am sv rf ln hs g) A ([.ref (am 0), .int x1] : List Value).toArray s) (F0 m 4 ls []) := by
    intro n4
    induction n4 with
    | zero => intro y1 y2 y3 H locs ls hR hF; exact hF.elim
    | succ n4 ih4 =>
      intro y1 y2 y3 H locs ls hR hF hP hD hS hl
      rw [fx4_itemOf_L4] at hR
      rw [sx4_itemOf_L4] at hF
      refine lv_iload_n hx hb dX4_itemOf_4 rfl (lv_at hl 2 rfl) ?_
      refine lv_aload_n hx hb dX4_itemOf_5 rfl (lv_at hl 3 rfl) ?_
      refine va_get (D := D) (ci := 4) (v := .ref (am 1)) (C := RX4) (T := TX4) (N := 8) hx hb hts hinX4 hown hK hP 0 rfl rfl 0 (by decide) q1 (fun _ h9 => h9) rfl dX4_itemOf_6 ?_
      refine lv_bipush (v := 36) hx hb dX4_itemOf_9 (by decide) ?_
      refine va_iald hx hb hK hP 1 0 rfl rfl (kin_lit (j := 36) (n := 1203) (by decide) (by decide)) dX4_itemOf_11 ?_
      refine kw_top (v := .int (g 36)) rfl ?_
      refine lv_icmp_ge (tgt := 41) hx hb dX4_itemOf_12 (by decide) (fun c5001 => ?_) (fun c5001 => ?_)
      · rw [if_pos c5001] at hR hF
        refine lv_iload_n hx hb dX4_itemOf_41 rfl (lv_at hl 1 rfl) ?_
        subst hR
        exact krI hx hb hr hlk hP hD hS dX4_itemOf_42 rfl rfl
      · rw [if_neg c5001] at hR hF
        refine lv_aload_n hx hb dX4_itemOf_15 rfl (lv_at hl 3 rfl) ?_
        refine va_get (D := D) (ci := 4) (v := .ref (am 1)) (C := RX4) (T := TX4) (N := 8) hx hb hts hinX4 hown hK hP 0 rfl rfl 0 (by decide) q1 (fun _ h9 => h9) rfl dX4_itemOf_16 ?_
        refine lv_iload_n hx hb dX4_itemOf_19 rfl (lv_at hl 2 rfl) ?_
        refine lv_iconst (v := 0) hx hb dX4_itemOf_20 (by decide) ?_
        refine kcsI (As := [.int y3, .int 0]) (rest := [.ref (am 1)]) E.1 (cx4_thing E y3 0) hX (va_cwS 2 hts gX4_itemOf_X4_thing rfl rfl rfl hdX4_thing.2 ⟨Nat.le_of_ble_eq_true rfl, Nat.le_of_ble_eq_true rfl⟩) hKs hP hD hS hA _ _ (kw_nil _) (kw_nil _).symm rfl rfl hl.1 (Nat.le_of_ble_eq_true rfl) dX4_itemOf_21 ⟨Nat.zero_le _, Nat.zero_le _⟩ (fun H locs hP hD hS => ?_)
        obtain ⟨hi5002, hF⟩ := hF
        refine va_iald hx hb hK hP 1 0 rfl rfl hi5002 dX4_itemOf_24 ?_
        refine lv_iload_n hx hb dX4_itemOf_25 rfl (lv_at hl 0 rfl) ?_
        refine lv_icmp_ne (tgt := 33) hx hb dX4_itemOf_26 (by decide) (fun c5003 => ?_) (fun c5003 => ?_)
        · rw [if_neg c5003] at hR hF
          refine lv_iload_n hx hb dX4_itemOf_33 rfl (lv_at hl 1 rfl) ?_
          refine lv_istore_n (lv' := [(2, .int y2), (1, .int y1), (3, .int y3), (0, .ref (am 0))]) hx hb dX4_itemOf_34 rfl hl (by decide) rfl (fun ls hl => ?_)
          refine lv_iinc (v := y3 + 1) (lv' := [(3, .int (y3 + 1)), (2, .int y2), (1, .int y1), (0, .ref (am 0))]) hx hb dX4_itemOf_35 hl (k := 2) rfl rfl (by decide) rfl (fun ls hl => ?_)
          refine lv_goto (tgt := 4) hx hb dX4_itemOf_38 (by decide) ?_
          exact ih4 y1 y2 (y3 + 1) _ _ ls hR hF hP hD hS (lv_sub hl [2, 1, 0, 3] rfl)
        · rw [if_pos c5003] at hR hF
          refine lv_iload_n hx hb dX4_itemOf_29 rfl (lv_at hl 2 rfl) ?_
          refine lv_goto (tgt := 34) hx hb dX4_itemOf_30 (by decide) ?_
          refine lv_istore_n (lv' := [(2, .int y3), (1, .int y1), (3, .int y3), (0, .ref (am 0))]) hx hb dX4_itemOf_34 rfl hl (by decide) rfl (fun ls hl => ?_)
          refine lv_iinc (v := y3 + 1) (lv' := [(3, .int (y3 + 1)), (2, .int y3), (1, .int y1), (0, .ref (am 0))]) hx hb dX4_itemOf_35 hl (k := 2) rfl rfl (by decide) rfl (fun ls hl => ?_)
          refine lv_goto (tgt := 4) hx hb dX4_itemOf_38 (by decide) ?_
          exact ih4 y1 y3 (y3 + 1) _ _ ls hR hF hP hD hS (lv_sub hl [2, 1, 0, 3] rfl)
  exact loop4 kfu x1 (-1) 0 _ _ ls hR hF hP hD hS (lv_sub hl [3, 1, 0, 2] rfl)

theorem hdX4_recordOf : yX4_recordOf.cls = RX4 ∧ yX4_recordOf.cls ≠ "java/lang/invoke/MethodHandle" ∧ yX4_recordOf.cls ≠ "java/lang/invoke/VarHandle" ∧ (parseMethodDescriptor yX4_recordOf.desc).map (fun d => d.parameters.length) = some 1 := by decide +kernel
def fx4_recordOf_L4 (g : (Nat → Int32)) : Nat → Int32 → Int32 → Int32 → Int32
  | 0, _, _, _ => 0
  | n4 + 1, y1, y2, y3 => (if (g 117) ≤ y3 then y2 else (if (g (fx4_entry y3 0).toNatClampNeg) = y1 then fx4_recordOf_L4 g n4 y1 y3 (y3 + 1) else fx4_recordOf_L4 g n4 y1 y2 (y3 + 1)))
def sx4_recordOf_L4 (g : (Nat → Int32)) : Nat → Int32 → Int32 → Int32 → Prop
  | 0, _, _, _ => False
  | n4 + 1, y1, y2, y3 => (if (g 117) ≤ y3 then True else (vp_in (fx4_entry y3 0) 1203 ∧ (if (g (fx4_entry y3 0).toNatClampNeg) = y1 then sx4_recordOf_L4 g n4 y1 y3 (y3 + 1) else sx4_recordOf_L4 g n4 y1 y2 (y3 + 1))))
def fx4_recordOf (g : (Nat → Int32)) (x1 : Int32) : Int32 := fx4_recordOf_L4 g kfu x1 (-1) 0
def sx4_recordOf (g : (Nat → Int32)) (x1 : Int32) : Prop := sx4_recordOf_L4 g kfu x1 (-1) 0
set_option maxHeartbeats 4000000 in
set_option maxRecDepth 100000 in
theorem cx4_recordOf {l : Launch} {D : va_G} {cI cB cS cJ : ClassId} {K : State → Prop} (E : kE D cI cB cS cJ K) (am : Nat → Nat) (sv rf ln : Int32) (hs : Int64) (g : (Nat → Int32)) (x1 : Int32) (hF : sx4_recordOf g x1) : kI l D K yX4_recordOf wsX4_recordOf 1 21 [.ref (am 0), .int x1] (mnW cI am sv rf ln hs g) (fx4_recordOf g x1) (mnW cI am sv rf ln hs g) := by
  refine kI_of (own := RX4) (cc := cX4_recordOf) (maxL := 4) (tys := kty cI cB cS cJ) (fun U h => (E.2 U h).1) (by decide) rfl rfl (Nat.le_of_ble_eq_true rfl) ?_
  intro p e s m below meth c A ls hx hb hr hml hts hown hlk hKs hK hP hD hA hS hl
  have hl : lv_has ls 4 [(0, .ref (am 0)), (1, .int x1)] := hl
  have hX : CallFix p m c cX4_recordOf 4 s _ wsX4_recordOf RX4 := ⟨hx, hb, hml, hown, hts⟩
  have hinX4 : ∀ w ∈ wsX40, w ∈ wsX4_recordOf := fun w h => List.mem_cons_of_mem _ (List.mem_append_right _ h)
  have q1 := hts (.fieldLink RX4 7 "LabelStationModel" "now" "[I") (List.mem_of_getElem? (i := 1) rfl)
  generalize hR : fx4_recordOf g x1 = R
  rw [fx4_recordOf] at hR
  rw [sx4_recordOf] at hF
  refine lv_iconst (v := (-1)) hx hb dX4_recordOf_0 (by decide) ?_
  refine lv_istore_n (lv' := [(2, .int (-1)), (0, .ref (am 0)), (1, .int x1)]) hx hb dX4_recordOf_1 rfl hl (by decide) rfl (fun ls hl => ?_)
  refine lv_iconst (v := 0) hx hb dX4_recordOf_2 (by decide) ?_
  refine lv_istore_n (lv' := [(3, .int 0), (2, .int (-1)), (0, .ref (am 0)), (1, .int x1)]) hx hb dX4_recordOf_3 rfl hl (by decide) rfl (fun ls hl => ?_)
  have loop4 : ∀ (n4 : Nat) (y1 : Int32) (y2 : Int32) (y3 : Int32) (H : Heap) (locs : List Loc) (ls : Array Slot), fx4_recordOf_L4 g n4 y1 y2 y3 = R → sx4_recordOf_L4 g n4 y1 y2 y3 → va_P D vwCl (mnW cI am sv rf ln hs g) H → va_D A (mnW cI am sv rf ln hs g) → va_S A s.heap H locs → lv_has ls 4 [(1, .int y1), (2, .int y2), (3, .int y3), (0, .ref (am 0))] → W p l e (kRm 1 21) s m ([.ref (am 0), .int x1] : List Value).toArray below meth c H locs 0 0 (kQI D below R (mnW cI am sv rf ln hs g) A ([.ref (am 0), .int x1] : List Value).toArray s) (F0 m 4 ls []) := by
    intro n4
    induction n4 with
    | zero => intro y1 y2 y3 H locs ls hR hF; exact hF.elim
    | succ n4 ih4 =>
      intro y1 y2 y3 H locs ls hR hF hP hD hS hl
      rw [fx4_recordOf_L4] at hR
      rw [sx4_recordOf_L4] at hF
      refine lv_iload_n hx hb dX4_recordOf_4 rfl (lv_at hl 2 rfl) ?_
      refine lv_aload_n hx hb dX4_recordOf_5 rfl (lv_at hl 3 rfl) ?_
      refine va_get (D := D) (ci := 4) (v := .ref (am 1)) (C := RX4) (T := TX4) (N := 8) hx hb hts hinX4 hown hK hP 0 rfl rfl 0 (by decide) q1 (fun _ h9 => h9) rfl dX4_recordOf_6 ?_
      refine lv_bipush (v := 117) hx hb dX4_recordOf_9 (by decide) ?_
      refine va_iald hx hb hK hP 1 0 rfl rfl (kin_lit (j := 117) (n := 1203) (by decide) (by decide)) dX4_recordOf_11 ?_
      refine kw_top (v := .int (g 117)) rfl ?_
      refine lv_icmp_ge (tgt := 41) hx hb dX4_recordOf_12 (by decide) (fun c5001 => ?_) (fun c5001 => ?_)
      · rw [if_pos c5001] at hR hF
        refine lv_iload_n hx hb dX4_recordOf_41 rfl (lv_at hl 1 rfl) ?_
        subst hR
        exact krI hx hb hr hlk hP hD hS dX4_recordOf_42 rfl rfl
      · rw [if_neg c5001] at hR hF
        refine lv_aload_n hx hb dX4_recordOf_15 rfl (lv_at hl 3 rfl) ?_
        refine va_get (D := D) (ci := 4) (v := .ref (am 1)) (C := RX4) (T := TX4) (N := 8) hx hb hts hinX4 hown hK hP 0 rfl rfl 0 (by decide) q1 (fun _ h9 => h9) rfl dX4_recordOf_16 ?_
        refine lv_iload_n hx hb dX4_recordOf_19 rfl (lv_at hl 2 rfl) ?_
        refine lv_iconst (v := 0) hx hb dX4_recordOf_20 (by decide) ?_
        refine kcsI (As := [.int y3, .int 0]) (rest := [.ref (am 1)]) E.1 (cx4_entry E y3 0) hX (va_cwS 2 hts gX4_recordOf_X4_entry rfl rfl rfl hdX4_entry.2 ⟨Nat.le_of_ble_eq_true rfl, Nat.le_of_ble_eq_true rfl⟩) hKs hP hD hS hA _ _ (kw_nil _) (kw_nil _).symm rfl rfl hl.1 (Nat.le_of_ble_eq_true rfl) dX4_recordOf_21 ⟨Nat.zero_le _, Nat.zero_le _⟩ (fun H locs hP hD hS => ?_)
        obtain ⟨hi5002, hF⟩ := hF
        refine va_iald hx hb hK hP 1 0 rfl rfl hi5002 dX4_recordOf_24 ?_
        refine lv_iload_n hx hb dX4_recordOf_25 rfl (lv_at hl 0 rfl) ?_
        refine lv_icmp_ne (tgt := 33) hx hb dX4_recordOf_26 (by decide) (fun c5003 => ?_) (fun c5003 => ?_)
        · rw [if_neg c5003] at hR hF
          refine lv_iload_n hx hb dX4_recordOf_33 rfl (lv_at hl 1 rfl) ?_
          refine lv_istore_n (lv' := [(2, .int y2), (1, .int y1), (3, .int y3), (0, .ref (am 0))]) hx hb dX4_recordOf_34 rfl hl (by decide) rfl (fun ls hl => ?_)
          refine lv_iinc (v := y3 + 1) (lv' := [(3, .int (y3 + 1)), (2, .int y2), (1, .int y1), (0, .ref (am 0))]) hx hb dX4_recordOf_35 hl (k := 2) rfl rfl (by decide) rfl (fun ls hl => ?_)
          refine lv_goto (tgt := 4) hx hb dX4_recordOf_38 (by decide) ?_
          exact ih4 y1 y2 (y3 + 1) _ _ ls hR hF hP hD hS (lv_sub hl [2, 1, 0, 3] rfl)
        · rw [if_pos c5003] at hR hF
          refine lv_iload_n hx hb dX4_recordOf_29 rfl (lv_at hl 2 rfl) ?_
          refine lv_goto (tgt := 34) hx hb dX4_recordOf_30 (by decide) ?_
          refine lv_istore_n (lv' := [(2, .int y3), (1, .int y1), (3, .int y3), (0, .ref (am 0))]) hx hb dX4_recordOf_34 rfl hl (by decide) rfl (fun ls hl => ?_)
          refine lv_iinc (v := y3 + 1) (lv' := [(3, .int (y3 + 1)), (2, .int y3), (1, .int y1), (0, .ref (am 0))]) hx hb dX4_recordOf_35 hl (k := 2) rfl rfl (by decide) rfl (fun ls hl => ?_)
          refine lv_goto (tgt := 4) hx hb dX4_recordOf_38 (by decide) ?_
          exact ih4 y1 y3 (y3 + 1) _ _ ls hR hF hP hD hS (lv_sub hl [2, 1, 0, 3] rfl)
  exact loop4 kfu x1 (-1) 0 _ _ ls hR hF hP hD hS (lv_sub hl [3, 1, 0, 2] rfl)

theorem hdX4_barFeed : yX4_barFeed.cls = RX4 ∧ yX4_barFeed.cls ≠ "java/lang/invoke/MethodHandle" ∧ yX4_barFeed.cls ≠ "java/lang/invoke/VarHandle" ∧ (parseMethodDescriptor yX4_barFeed.desc).map (fun d => d.parameters.length) = some 1 := by decide +kernel
def fx4_barFeed_L75 (g : (Nat → Int32)) : Nat → Int32 → Int32 → Int32 → Int32
  | 0, _, _, _ => 0
  | n75 + 1, y1, y2, y3 => (if (g 117) ≤ y3 then (if y2 = 0 then 2 else 0) else (if y2 = 0 then fx4_barFeed_L75 g n75 y1 0 (y3 + 1) else (if (g (fx4_entry y3 1).toNatClampNeg) < 30 then fx4_barFeed_L75 g n75 y1 0 (y3 + 1) else fx4_barFeed_L75 g n75 y1 1 (y3 + 1))))
def sx4_barFeed_L75 (g : (Nat → Int32)) : Nat → Int32 → Int32 → Int32 → Prop
  | 0, _, _, _ => False
  | n75 + 1, y1, y2, y3 => (if (g 117) ≤ y3 then True else (if y2 = 0 then sx4_barFeed_L75 g n75 y1 0 (y3 + 1) else (vp_in (fx4_entry y3 1) 1203 ∧ (if (g (fx4_entry y3 1).toNatClampNeg) < 30 then sx4_barFeed_L75 g n75 y1 0 (y3 + 1) else sx4_barFeed_L75 g n75 y1 1 (y3 + 1)))))
def fx4_barFeed_L31 (g : (Nat → Int32)) : Nat → Int32 → Int32 → Int32 → Int32
  | 0, _, _, _ => 0
  | n31 + 1, y1, y2, y3 => (if (g 36) ≤ y3 then fx4_barFeed_L75 g kfu y1 y2 0 else (if y2 = 0 then fx4_barFeed_L31 g n31 y1 0 (y3 + 1) else (if (g (fx4_thing y3 1).toNatClampNeg) < 30 then fx4_barFeed_L31 g n31 y1 0 (y3 + 1) else fx4_barFeed_L31 g n31 y1 1 (y3 + 1))))
def sx4_barFeed_L31 (g : (Nat → Int32)) : Nat → Int32 → Int32 → Int32 → Prop
  | 0, _, _, _ => False
  | n31 + 1, y1, y2, y3 => (if (g 36) ≤ y3 then sx4_barFeed_L75 g kfu y1 y2 0 else (if y2 = 0 then sx4_barFeed_L31 g n31 y1 0 (y3 + 1) else (vp_in (fx4_thing y3 1) 1203 ∧ (if (g (fx4_thing y3 1).toNatClampNeg) < 30 then sx4_barFeed_L31 g n31 y1 0 (y3 + 1) else sx4_barFeed_L31 g n31 y1 1 (y3 + 1)))))
def fx4_barFeed (g : (Nat → Int32)) (x1 : Int32) : Int32 := (if (fx4_within x1 0 3) = 0 then 1 else (if 20 ≤ (g 36) then fx4_barFeed_L31 g kfu x1 0 0 else fx4_barFeed_L31 g kfu x1 1 0))
def sx4_barFeed (g : (Nat → Int32)) (x1 : Int32) : Prop := (if (fx4_within x1 0 3) = 0 then True else (if 20 ≤ (g 36) then sx4_barFeed_L31 g kfu x1 0 0 else sx4_barFeed_L31 g kfu x1 1 0))
set_option maxHeartbeats 4000000 in
set_option maxRecDepth 100000 in
theorem cx4_barFeed {l : Launch} {D : va_G} {cI cB cS cJ : ClassId} {K : State → Prop} (E : kE D cI cB cS cJ K) (am : Nat → Nat) (sv rf ln : Int32) (hs : Int64) (g : (Nat → Int32)) (x1 : Int32) (hF : sx4_barFeed g x1) : kI l D K yX4_barFeed wsX4_barFeed 1 22 [.ref (am 0), .int x1] (mnW cI am sv rf ln hs g) (fx4_barFeed g x1) (mnW cI am sv rf ln hs g) := by
  refine kI_of (own := RX4) (cc := cX4_barFeed) (maxL := 4) (tys := kty cI cB cS cJ) (fun U h => (E.2 U h).1) (by decide) rfl rfl (Nat.le_of_ble_eq_true rfl) ?_
  intro p e s m below meth c A ls hx hb hr hml hts hown hlk hKs hK hP hD hA hS hl
  have hl : lv_has ls 4 [(0, .ref (am 0)), (1, .int x1)] := hl
  have hX : CallFix p m c cX4_barFeed 4 s _ wsX4_barFeed RX4 := ⟨hx, hb, hml, hown, hts⟩
  have hinX4 : ∀ w ∈ wsX40, w ∈ wsX4_barFeed := fun w h => List.mem_cons_of_mem _ (List.mem_append_right _ h)
  have q1 := hts (.fieldLink RX4 7 "LabelStationModel" "now" "[I") (List.mem_of_getElem? (i := 1) rfl)
  generalize hR : fx4_barFeed g x1 = R
  rw [fx4_barFeed] at hR
  rw [sx4_barFeed] at hF
  refine lv_iload_n hx hb dX4_barFeed_0 rfl (lv_at hl 1 rfl) ?_
  refine lv_iconst (v := 0) hx hb dX4_barFeed_1 (by decide) ?_
  refine lv_iconst (v := 3) hx hb dX4_barFeed_2 (by decide) ?_
  refine kcsI (As := [.int x1, .int 0, .int 3]) (rest := []) E.1 (cx4_within E x1 0 3) hX (va_cwS 3 hts gX4_barFeed_X4_within rfl rfl rfl hdX4_within.2 ⟨Nat.le_of_ble_eq_true rfl, Nat.le_of_ble_eq_true rfl⟩) hKs hP hD hS hA _ _ (kw_nil _) (kw_nil _).symm rfl rfl hl.1 (Nat.le_of_ble_eq_true rfl) dX4_barFeed_3 ⟨Nat.zero_le _, Nat.zero_le _⟩ (fun H locs hP hD hS => ?_)
  refine lv_if_ne (tgt := 11) hx hb dX4_barFeed_6 (by decide) (fun c1 => ?_) (fun c1 => ?_)
  · rw [if_neg c1] at hR hF
    refine lv_aload_n hx hb dX4_barFeed_11 rfl (lv_at hl 0 rfl) ?_
    refine va_get (D := D) (ci := 4) (v := .ref (am 1)) (C := RX4) (T := TX4) (N := 8) hx hb hts hinX4 hown hK hP 0 rfl rfl 0 (by decide) q1 (fun _ h9 => h9) rfl dX4_barFeed_12 ?_
    refine lv_bipush (v := 36) hx hb dX4_barFeed_15 (by decide) ?_
    refine va_iald hx hb hK hP 1 0 rfl rfl (kin_lit (j := 36) (n := 1203) (by decide) (by decide)) dX4_barFeed_17 ?_
    refine kw_top (v := .int (g 36)) rfl ?_
    refine lv_bipush (v := 20) hx hb dX4_barFeed_18 (by decide) ?_
    refine lv_icmp_ge (tgt := 27) hx hb dX4_barFeed_20 (by decide) (fun c2 => ?_) (fun c2 => ?_)
    · rw [if_pos c2] at hR hF
      refine lv_iconst (v := 0) hx hb dX4_barFeed_27 (by decide) ?_
      refine lv_istore_n (lv' := [(2, .int 0), (0, .ref (am 0)), (1, .int x1)]) hx hb dX4_barFeed_28 rfl hl (by decide) rfl (fun ls hl => ?_)
      refine lv_iconst (v := 0) hx hb dX4_barFeed_29 (by decide) ?_
      refine lv_istore_n (lv' := [(3, .int 0), (2, .int 0), (0, .ref (am 0)), (1, .int x1)]) hx hb dX4_barFeed_30 rfl hl (by decide) rfl (fun ls hl => ?_)
      have loop31 : ∀ (n31 : Nat) (y1 : Int32) (y2 : Int32) (y3 : Int32) (H : Heap) (locs : List Loc) (ls : Array Slot), fx4_barFeed_L31 g n31 y1 y2 y3 = R → sx4_barFeed_L31 g n31 y1 y2 y3 → va_P D vwCl (mnW cI am sv rf ln hs g) H → va_D A (mnW cI am sv rf ln hs g) → va_S A s.heap H locs → lv_has ls 4 [(1, .int y1), (2, .int y2), (3, .int y3), (0, .ref (am 0))] → W p l e (kRm 1 22) s m ([.ref (am 0), .int x1] : List Value).toArray below meth c H locs 0 0 (kQI D below R (mnW cI am sv rf ln hs g) A ([.ref (am 0), .int x1] : List Value).toArray s) (F0 m 31 ls []) := by
        intro n31
        induction n31 with
        | zero => intro y1 y2 y3 H locs ls hR hF; exact hF.elim
        | succ n31 ih31 =>
          intro y1 y2 y3 H locs ls hR hF hP hD hS hl
          rw [fx4_barFeed_L31] at hR
          rw [sx4_barFeed_L31] at hF
          refine lv_iload_n hx hb dX4_barFeed_31 rfl (lv_at hl 2 rfl) ?_
          refine lv_aload_n hx hb dX4_barFeed_32 rfl (lv_at hl 3 rfl) ?_
          refine va_get (D := D) (ci := 4) (v := .ref (am 1)) (C := RX4) (T := TX4) (N := 8) hx hb hts hinX4 hown hK hP 0 rfl rfl 0 (by decide) q1 (fun _ h9 => h9) rfl dX4_barFeed_33 ?_
          refine lv_bipush (v := 36) hx hb dX4_barFeed_36 (by decide) ?_
          refine va_iald hx hb hK hP 1 0 rfl rfl (kin_lit (j := 36) (n := 1203) (by decide) (by decide)) dX4_barFeed_38 ?_
          refine kw_top (v := .int (g 36)) rfl ?_
          refine lv_icmp_ge (tgt := 73) hx hb dX4_barFeed_39 (by decide) (fun c32001 => ?_) (fun c32001 => ?_)
          · rw [if_pos c32001] at hR hF
            refine lv_iconst (v := 0) hx hb dX4_barFeed_73 (by decide) ?_
            refine lv_istore_n (lv' := [(3, .int 0), (1, .int y1), (2, .int y2), (0, .ref (am 0))]) hx hb dX4_barFeed_74 rfl hl (by decide) rfl (fun ls hl => ?_)
            have loop75 : ∀ (n75 : Nat) (y1 : Int32) (y2 : Int32) (y3 : Int32) (H : Heap) (locs : List Loc) (ls : Array Slot), fx4_barFeed_L75 g n75 y1 y2 y3 = R → sx4_barFeed_L75 g n75 y1 y2 y3 → va_P D vwCl (mnW cI am sv rf ln hs g) H → va_D A (mnW cI am sv rf ln hs g) → va_S A s.heap H locs → lv_has ls 4 [(1, .int y1), (2, .int y2), (3, .int y3), (0, .ref (am 0))] → W p l e (kRm 1 22) s m ([.ref (am 0), .int x1] : List Value).toArray below meth c H locs 0 0 (kQI D below R (mnW cI am sv rf ln hs g) A ([.ref (am 0), .int x1] : List Value).toArray s) (F0 m 75 ls []) := by
              intro n75
              induction n75 with
              | zero => intro y1 y2 y3 H locs ls hR hF; exact hF.elim
              | succ n75 ih75 =>
                intro y1 y2 y3 H locs ls hR hF hP hD hS hl
                rw [fx4_barFeed_L75] at hR
                rw [sx4_barFeed_L75] at hF
                refine lv_iload_n hx hb dX4_barFeed_75 rfl (lv_at hl 2 rfl) ?_
                refine lv_aload_n hx hb dX4_barFeed_76 rfl (lv_at hl 3 rfl) ?_
                refine va_get (D := D) (ci := 4) (v := .ref (am 1)) (C := RX4) (T := TX4) (N := 8) hx hb hts hinX4 hown hK hP 0 rfl rfl 0 (by decide) q1 (fun _ h9 => h9) rfl dX4_barFeed_77 ?_
                refine lv_bipush (v := 117) hx hb dX4_barFeed_80 (by decide) ?_
                refine va_iald hx hb hK hP 1 0 rfl rfl (kin_lit (j := 117) (n := 1203) (by decide) (by decide)) dX4_barFeed_82 ?_
                refine kw_top (v := .int (g 117)) rfl ?_
                refine lv_icmp_ge (tgt := 117) hx hb dX4_barFeed_83 (by decide) (fun c76001 => ?_) (fun c76001 => ?_)
                · rw [if_pos c76001] at hR hF
                  refine lv_iload_n hx hb dX4_barFeed_117 rfl (lv_at hl 1 rfl) ?_
                  refine lv_if_eq (tgt := 125) hx hb dX4_barFeed_118 (by decide) (fun c76002 => ?_) (fun c76002 => ?_)
                  · rw [if_pos c76002] at hR
                    refine lv_iconst (v := 2) hx hb dX4_barFeed_125 (by decide) ?_
                    subst hR
                    exact krI hx hb hr hlk hP hD hS dX4_barFeed_126 rfl rfl
                  · rw [if_neg c76002] at hR
                    refine lv_iconst (v := 0) hx hb dX4_barFeed_121 (by decide) ?_
                    refine lv_goto (tgt := 126) hx hb dX4_barFeed_122 (by decide) ?_
                    subst hR
                    exact krI hx hb hr hlk hP hD hS dX4_barFeed_126 rfl rfl
                · rw [if_neg c76001] at hR hF
                  refine lv_iload_n hx hb dX4_barFeed_86 rfl (lv_at hl 1 rfl) ?_
                  refine lv_if_eq (tgt := 109) hx hb dX4_barFeed_87 (by decide) (fun c76003 => ?_) (fun c76003 => ?_)
                  · rw [if_pos c76003] at hR hF
                    refine lv_iconst (v := 0) hx hb dX4_barFeed_109 (by decide) ?_
                    refine lv_istore_n (lv' := [(2, .int 0), (1, .int y1), (3, .int y3), (0, .ref (am 0))]) hx hb dX4_barFeed_110 rfl hl (by decide) rfl (fun ls hl => ?_)
                    refine lv_iinc (v := y3 + 1) (lv' := [(3, .int (y3 + 1)), (2, .int 0), (1, .int y1), (0, .ref (am 0))]) hx hb dX4_barFeed_111 hl (k := 2) rfl rfl (by decide) rfl (fun ls hl => ?_)
                    refine lv_goto (tgt := 75) hx hb dX4_barFeed_114 (by decide) ?_
                    exact ih75 y1 0 (y3 + 1) _ _ ls hR hF hP hD hS (lv_sub hl [2, 1, 0, 3] rfl)
                  · rw [if_neg c76003] at hR hF
                    refine lv_aload_n hx hb dX4_barFeed_90 rfl (lv_at hl 3 rfl) ?_
                    refine va_get (D := D) (ci := 4) (v := .ref (am 1)) (C := RX4) (T := TX4) (N := 8) hx hb hts hinX4 hown hK hP 0 rfl rfl 0 (by decide) q1 (fun _ h9 => h9) rfl dX4_barFeed_91 ?_
                    refine lv_iload_n hx hb dX4_barFeed_94 rfl (lv_at hl 2 rfl) ?_
                    refine lv_iconst (v := 1) hx hb dX4_barFeed_95 (by decide) ?_
                    refine kcsI (As := [.int y3, .int 1]) (rest := [.ref (am 1)]) E.1 (cx4_entry E y3 1) hX (va_cwS 2 hts gX4_barFeed_X4_entry rfl rfl rfl hdX4_entry.2 ⟨Nat.le_of_ble_eq_true rfl, Nat.le_of_ble_eq_true rfl⟩) hKs hP hD hS hA _ _ (kw_nil _) (kw_nil _).symm rfl rfl hl.1 (Nat.le_of_ble_eq_true rfl) dX4_barFeed_96 ⟨Nat.zero_le _, Nat.zero_le _⟩ (fun H locs hP hD hS => ?_)
                    obtain ⟨hi76004, hF⟩ := hF
                    refine va_iald hx hb hK hP 1 0 rfl rfl hi76004 dX4_barFeed_99 ?_
                    refine lv_bipush (v := 30) hx hb dX4_barFeed_100 (by decide) ?_
                    refine lv_icmp_lt (tgt := 109) hx hb dX4_barFeed_102 (by decide) (fun c76005 => ?_) (fun c76005 => ?_)
                    · rw [if_pos c76005] at hR hF
                      refine lv_iconst (v := 0) hx hb dX4_barFeed_109 (by decide) ?_
                      refine lv_istore_n (lv' := [(2, .int 0), (1, .int y1), (3, .int y3), (0, .ref (am 0))]) hx hb dX4_barFeed_110 rfl hl (by decide) rfl (fun ls hl => ?_)
                      refine lv_iinc (v := y3 + 1) (lv' := [(3, .int (y3 + 1)), (2, .int 0), (1, .int y1), (0, .ref (am 0))]) hx hb dX4_barFeed_111 hl (k := 2) rfl rfl (by decide) rfl (fun ls hl => ?_)
                      refine lv_goto (tgt := 75) hx hb dX4_barFeed_114 (by decide) ?_
                      exact ih75 y1 0 (y3 + 1) _ _ ls hR hF hP hD hS (lv_sub hl [2, 1, 0, 3] rfl)
                    · rw [if_neg c76005] at hR hF
                      refine lv_iconst (v := 1) hx hb dX4_barFeed_105 (by decide) ?_
                      refine lv_goto (tgt := 110) hx hb dX4_barFeed_106 (by decide) ?_
                      refine lv_istore_n (lv' := [(2, .int 1), (1, .int y1), (3, .int y3), (0, .ref (am 0))]) hx hb dX4_barFeed_110 rfl hl (by decide) rfl (fun ls hl => ?_)
                      refine lv_iinc (v := y3 + 1) (lv' := [(3, .int (y3 + 1)), (2, .int 1), (1, .int y1), (0, .ref (am 0))]) hx hb dX4_barFeed_111 hl (k := 2) rfl rfl (by decide) rfl (fun ls hl => ?_)
                      refine lv_goto (tgt := 75) hx hb dX4_barFeed_114 (by decide) ?_
                      exact ih75 y1 1 (y3 + 1) _ _ ls hR hF hP hD hS (lv_sub hl [2, 1, 0, 3] rfl)
            exact loop75 kfu y1 y2 0 _ _ ls hR hF hP hD hS (lv_sub hl [1, 2, 0, 3] rfl)
          · rw [if_neg c32001] at hR hF
            refine lv_iload_n hx hb dX4_barFeed_42 rfl (lv_at hl 1 rfl) ?_
            refine lv_if_eq (tgt := 65) hx hb dX4_barFeed_43 (by decide) (fun c32002 => ?_) (fun c32002 => ?_)
            · rw [if_pos c32002] at hR hF
              refine lv_iconst (v := 0) hx hb dX4_barFeed_65 (by decide) ?_
              refine lv_istore_n (lv' := [(2, .int 0), (1, .int y1), (3, .int y3), (0, .ref (am 0))]) hx hb dX4_barFeed_66 rfl hl (by decide) rfl (fun ls hl => ?_)
              refine lv_iinc (v := y3 + 1) (lv' := [(3, .int (y3 + 1)), (2, .int 0), (1, .int y1), (0, .ref (am 0))]) hx hb dX4_barFeed_67 hl (k := 2) rfl rfl (by decide) rfl (fun ls hl => ?_)
              refine lv_goto (tgt := 31) hx hb dX4_barFeed_70 (by decide) ?_
              exact ih31 y1 0 (y3 + 1) _ _ ls hR hF hP hD hS (lv_sub hl [2, 1, 0, 3] rfl)
            · rw [if_neg c32002] at hR hF
              refine lv_aload_n hx hb dX4_barFeed_46 rfl (lv_at hl 3 rfl) ?_
              refine va_get (D := D) (ci := 4) (v := .ref (am 1)) (C := RX4) (T := TX4) (N := 8) hx hb hts hinX4 hown hK hP 0 rfl rfl 0 (by decide) q1 (fun _ h9 => h9) rfl dX4_barFeed_47 ?_
              refine lv_iload_n hx hb dX4_barFeed_50 rfl (lv_at hl 2 rfl) ?_
              refine lv_iconst (v := 1) hx hb dX4_barFeed_51 (by decide) ?_
              refine kcsI (As := [.int y3, .int 1]) (rest := [.ref (am 1)]) E.1 (cx4_thing E y3 1) hX (va_cwS 2 hts gX4_barFeed_X4_thing rfl rfl rfl hdX4_thing.2 ⟨Nat.le_of_ble_eq_true rfl, Nat.le_of_ble_eq_true rfl⟩) hKs hP hD hS hA _ _ (kw_nil _) (kw_nil _).symm rfl rfl hl.1 (Nat.le_of_ble_eq_true rfl) dX4_barFeed_52 ⟨Nat.zero_le _, Nat.zero_le _⟩ (fun H locs hP hD hS => ?_)
              obtain ⟨hi32003, hF⟩ := hF
              refine va_iald hx hb hK hP 1 0 rfl rfl hi32003 dX4_barFeed_55 ?_
              refine lv_bipush (v := 30) hx hb dX4_barFeed_56 (by decide) ?_
              refine lv_icmp_lt (tgt := 65) hx hb dX4_barFeed_58 (by decide) (fun c32004 => ?_) (fun c32004 => ?_)
              · rw [if_pos c32004] at hR hF
                refine lv_iconst (v := 0) hx hb dX4_barFeed_65 (by decide) ?_
                refine lv_istore_n (lv' := [(2, .int 0), (1, .int y1), (3, .int y3), (0, .ref (am 0))]) hx hb dX4_barFeed_66 rfl hl (by decide) rfl (fun ls hl => ?_)
                refine lv_iinc (v := y3 + 1) (lv' := [(3, .int (y3 + 1)), (2, .int 0), (1, .int y1), (0, .ref (am 0))]) hx hb dX4_barFeed_67 hl (k := 2) rfl rfl (by decide) rfl (fun ls hl => ?_)
                refine lv_goto (tgt := 31) hx hb dX4_barFeed_70 (by decide) ?_
                exact ih31 y1 0 (y3 + 1) _ _ ls hR hF hP hD hS (lv_sub hl [2, 1, 0, 3] rfl)
              · rw [if_neg c32004] at hR hF
                refine lv_iconst (v := 1) hx hb dX4_barFeed_61 (by decide) ?_
                refine lv_goto (tgt := 66) hx hb dX4_barFeed_62 (by decide) ?_
                refine lv_istore_n (lv' := [(2, .int 1), (1, .int y1), (3, .int y3), (0, .ref (am 0))]) hx hb dX4_barFeed_66 rfl hl (by decide) rfl (fun ls hl => ?_)
                refine lv_iinc (v := y3 + 1) (lv' := [(3, .int (y3 + 1)), (2, .int 1), (1, .int y1), (0, .ref (am 0))]) hx hb dX4_barFeed_67 hl (k := 2) rfl rfl (by decide) rfl (fun ls hl => ?_)
                refine lv_goto (tgt := 31) hx hb dX4_barFeed_70 (by decide) ?_
                exact ih31 y1 1 (y3 + 1) _ _ ls hR hF hP hD hS (lv_sub hl [2, 1, 0, 3] rfl)
      exact loop31 kfu x1 0 0 _ _ ls hR hF hP hD hS (lv_sub hl [3, 1, 0, 2] rfl)
    · rw [if_neg c2] at hR hF
      refine lv_iconst (v := 1) hx hb dX4_barFeed_23 (by decide) ?_
      refine lv_goto (tgt := 28) hx hb dX4_barFeed_24 (by decide) ?_
      refine lv_istore_n (lv' := [(2, .int 1), (0, .ref (am 0)), (1, .int x1)]) hx hb dX4_barFeed_28 rfl hl (by decide) rfl (fun ls hl => ?_)
      refine lv_iconst (v := 0) hx hb dX4_barFeed_29 (by decide) ?_
      refine lv_istore_n (lv' := [(3, .int 0), (2, .int 1), (0, .ref (am 0)), (1, .int x1)]) hx hb dX4_barFeed_30 rfl hl (by decide) rfl (fun ls hl => ?_)
      have loop31 : ∀ (n31 : Nat) (y1 : Int32) (y2 : Int32) (y3 : Int32) (H : Heap) (locs : List Loc) (ls : Array Slot), fx4_barFeed_L31 g n31 y1 y2 y3 = R → sx4_barFeed_L31 g n31 y1 y2 y3 → va_P D vwCl (mnW cI am sv rf ln hs g) H → va_D A (mnW cI am sv rf ln hs g) → va_S A s.heap H locs → lv_has ls 4 [(1, .int y1), (2, .int y2), (3, .int y3), (0, .ref (am 0))] → W p l e (kRm 1 22) s m ([.ref (am 0), .int x1] : List Value).toArray below meth c H locs 0 0 (kQI D below R (mnW cI am sv rf ln hs g) A ([.ref (am 0), .int x1] : List Value).toArray s) (F0 m 31 ls []) := by
        intro n31
        induction n31 with
        | zero => intro y1 y2 y3 H locs ls hR hF; exact hF.elim
        | succ n31 ih31 =>
          intro y1 y2 y3 H locs ls hR hF hP hD hS hl
          rw [fx4_barFeed_L31] at hR
          rw [sx4_barFeed_L31] at hF
          refine lv_iload_n hx hb dX4_barFeed_31 rfl (lv_at hl 2 rfl) ?_
          refine lv_aload_n hx hb dX4_barFeed_32 rfl (lv_at hl 3 rfl) ?_
          refine va_get (D := D) (ci := 4) (v := .ref (am 1)) (C := RX4) (T := TX4) (N := 8) hx hb hts hinX4 hown hK hP 0 rfl rfl 0 (by decide) q1 (fun _ h9 => h9) rfl dX4_barFeed_33 ?_
          refine lv_bipush (v := 36) hx hb dX4_barFeed_36 (by decide) ?_
          refine va_iald hx hb hK hP 1 0 rfl rfl (kin_lit (j := 36) (n := 1203) (by decide) (by decide)) dX4_barFeed_38 ?_
          refine kw_top (v := .int (g 36)) rfl ?_
          refine lv_icmp_ge (tgt := 73) hx hb dX4_barFeed_39 (by decide) (fun c32001 => ?_) (fun c32001 => ?_)
          · rw [if_pos c32001] at hR hF
            refine lv_iconst (v := 0) hx hb dX4_barFeed_73 (by decide) ?_
            refine lv_istore_n (lv' := [(3, .int 0), (1, .int y1), (2, .int y2), (0, .ref (am 0))]) hx hb dX4_barFeed_74 rfl hl (by decide) rfl (fun ls hl => ?_)
            have loop75 : ∀ (n75 : Nat) (y1 : Int32) (y2 : Int32) (y3 : Int32) (H : Heap) (locs : List Loc) (ls : Array Slot), fx4_barFeed_L75 g n75 y1 y2 y3 = R → sx4_barFeed_L75 g n75 y1 y2 y3 → va_P D vwCl (mnW cI am sv rf ln hs g) H → va_D A (mnW cI am sv rf ln hs g) → va_S A s.heap H locs → lv_has ls 4 [(1, .int y1), (2, .int y2), (3, .int y3), (0, .ref (am 0))] → W p l e (kRm 1 22) s m ([.ref (am 0), .int x1] : List Value).toArray below meth c H locs 0 0 (kQI D below R (mnW cI am sv rf ln hs g) A ([.ref (am 0), .int x1] : List Value).toArray s) (F0 m 75 ls []) := by
              intro n75
              induction n75 with
              | zero => intro y1 y2 y3 H locs ls hR hF; exact hF.elim
              | succ n75 ih75 =>
                intro y1 y2 y3 H locs ls hR hF hP hD hS hl
                rw [fx4_barFeed_L75] at hR
                rw [sx4_barFeed_L75] at hF
                refine lv_iload_n hx hb dX4_barFeed_75 rfl (lv_at hl 2 rfl) ?_
                refine lv_aload_n hx hb dX4_barFeed_76 rfl (lv_at hl 3 rfl) ?_
                refine va_get (D := D) (ci := 4) (v := .ref (am 1)) (C := RX4) (T := TX4) (N := 8) hx hb hts hinX4 hown hK hP 0 rfl rfl 0 (by decide) q1 (fun _ h9 => h9) rfl dX4_barFeed_77 ?_
                refine lv_bipush (v := 117) hx hb dX4_barFeed_80 (by decide) ?_
                refine va_iald hx hb hK hP 1 0 rfl rfl (kin_lit (j := 117) (n := 1203) (by decide) (by decide)) dX4_barFeed_82 ?_
                refine kw_top (v := .int (g 117)) rfl ?_
                refine lv_icmp_ge (tgt := 117) hx hb dX4_barFeed_83 (by decide) (fun c76001 => ?_) (fun c76001 => ?_)
                · rw [if_pos c76001] at hR hF
                  refine lv_iload_n hx hb dX4_barFeed_117 rfl (lv_at hl 1 rfl) ?_
                  refine lv_if_eq (tgt := 125) hx hb dX4_barFeed_118 (by decide) (fun c76002 => ?_) (fun c76002 => ?_)
                  · rw [if_pos c76002] at hR
                    refine lv_iconst (v := 2) hx hb dX4_barFeed_125 (by decide) ?_
                    subst hR
                    exact krI hx hb hr hlk hP hD hS dX4_barFeed_126 rfl rfl
                  · rw [if_neg c76002] at hR
                    refine lv_iconst (v := 0) hx hb dX4_barFeed_121 (by decide) ?_
                    refine lv_goto (tgt := 126) hx hb dX4_barFeed_122 (by decide) ?_
                    subst hR
                    exact krI hx hb hr hlk hP hD hS dX4_barFeed_126 rfl rfl
                · rw [if_neg c76001] at hR hF
                  refine lv_iload_n hx hb dX4_barFeed_86 rfl (lv_at hl 1 rfl) ?_
                  refine lv_if_eq (tgt := 109) hx hb dX4_barFeed_87 (by decide) (fun c76003 => ?_) (fun c76003 => ?_)
                  · rw [if_pos c76003] at hR hF
                    refine lv_iconst (v := 0) hx hb dX4_barFeed_109 (by decide) ?_
                    refine lv_istore_n (lv' := [(2, .int 0), (1, .int y1), (3, .int y3), (0, .ref (am 0))]) hx hb dX4_barFeed_110 rfl hl (by decide) rfl (fun ls hl => ?_)
                    refine lv_iinc (v := y3 + 1) (lv' := [(3, .int (y3 + 1)), (2, .int 0), (1, .int y1), (0, .ref (am 0))]) hx hb dX4_barFeed_111 hl (k := 2) rfl rfl (by decide) rfl (fun ls hl => ?_)
                    refine lv_goto (tgt := 75) hx hb dX4_barFeed_114 (by decide) ?_
                    exact ih75 y1 0 (y3 + 1) _ _ ls hR hF hP hD hS (lv_sub hl [2, 1, 0, 3] rfl)
                  · rw [if_neg c76003] at hR hF
                    refine lv_aload_n hx hb dX4_barFeed_90 rfl (lv_at hl 3 rfl) ?_
                    refine va_get (D := D) (ci := 4) (v := .ref (am 1)) (C := RX4) (T := TX4) (N := 8) hx hb hts hinX4 hown hK hP 0 rfl rfl 0 (by decide) q1 (fun _ h9 => h9) rfl dX4_barFeed_91 ?_
                    refine lv_iload_n hx hb dX4_barFeed_94 rfl (lv_at hl 2 rfl) ?_
                    refine lv_iconst (v := 1) hx hb dX4_barFeed_95 (by decide) ?_
                    refine kcsI (As := [.int y3, .int 1]) (rest := [.ref (am 1)]) E.1 (cx4_entry E y3 1) hX (va_cwS 2 hts gX4_barFeed_X4_entry rfl rfl rfl hdX4_entry.2 ⟨Nat.le_of_ble_eq_true rfl, Nat.le_of_ble_eq_true rfl⟩) hKs hP hD hS hA _ _ (kw_nil _) (kw_nil _).symm rfl rfl hl.1 (Nat.le_of_ble_eq_true rfl) dX4_barFeed_96 ⟨Nat.zero_le _, Nat.zero_le _⟩ (fun H locs hP hD hS => ?_)
                    obtain ⟨hi76004, hF⟩ := hF
                    refine va_iald hx hb hK hP 1 0 rfl rfl hi76004 dX4_barFeed_99 ?_
                    refine lv_bipush (v := 30) hx hb dX4_barFeed_100 (by decide) ?_
                    refine lv_icmp_lt (tgt := 109) hx hb dX4_barFeed_102 (by decide) (fun c76005 => ?_) (fun c76005 => ?_)
                    · rw [if_pos c76005] at hR hF
                      refine lv_iconst (v := 0) hx hb dX4_barFeed_109 (by decide) ?_
                      refine lv_istore_n (lv' := [(2, .int 0), (1, .int y1), (3, .int y3), (0, .ref (am 0))]) hx hb dX4_barFeed_110 rfl hl (by decide) rfl (fun ls hl => ?_)
                      refine lv_iinc (v := y3 + 1) (lv' := [(3, .int (y3 + 1)), (2, .int 0), (1, .int y1), (0, .ref (am 0))]) hx hb dX4_barFeed_111 hl (k := 2) rfl rfl (by decide) rfl (fun ls hl => ?_)
                      refine lv_goto (tgt := 75) hx hb dX4_barFeed_114 (by decide) ?_
                      exact ih75 y1 0 (y3 + 1) _ _ ls hR hF hP hD hS (lv_sub hl [2, 1, 0, 3] rfl)
                    · rw [if_neg c76005] at hR hF
                      refine lv_iconst (v := 1) hx hb dX4_barFeed_105 (by decide) ?_
                      refine lv_goto (tgt := 110) hx hb dX4_barFeed_106 (by decide) ?_
                      refine lv_istore_n (lv' := [(2, .int 1), (1, .int y1), (3, .int y3), (0, .ref (am 0))]) hx hb dX4_barFeed_110 rfl hl (by decide) rfl (fun ls hl => ?_)
                      refine lv_iinc (v := y3 + 1) (lv' := [(3, .int (y3 + 1)), (2, .int 1), (1, .int y1), (0, .ref (am 0))]) hx hb dX4_barFeed_111 hl (k := 2) rfl rfl (by decide) rfl (fun ls hl => ?_)
                      refine lv_goto (tgt := 75) hx hb dX4_barFeed_114 (by decide) ?_
                      exact ih75 y1 1 (y3 + 1) _ _ ls hR hF hP hD hS (lv_sub hl [2, 1, 0, 3] rfl)
            exact loop75 kfu y1 y2 0 _ _ ls hR hF hP hD hS (lv_sub hl [1, 2, 0, 3] rfl)
          · rw [if_neg c32001] at hR hF
            refine lv_iload_n hx hb dX4_barFeed_42 rfl (lv_at hl 1 rfl) ?_
            refine lv_if_eq (tgt := 65) hx hb dX4_barFeed_43 (by decide) (fun c32002 => ?_) (fun c32002 => ?_)
            · rw [if_pos c32002] at hR hF
              refine lv_iconst (v := 0) hx hb dX4_barFeed_65 (by decide) ?_
              refine lv_istore_n (lv' := [(2, .int 0), (1, .int y1), (3, .int y3), (0, .ref (am 0))]) hx hb dX4_barFeed_66 rfl hl (by decide) rfl (fun ls hl => ?_)
              refine lv_iinc (v := y3 + 1) (lv' := [(3, .int (y3 + 1)), (2, .int 0), (1, .int y1), (0, .ref (am 0))]) hx hb dX4_barFeed_67 hl (k := 2) rfl rfl (by decide) rfl (fun ls hl => ?_)
              refine lv_goto (tgt := 31) hx hb dX4_barFeed_70 (by decide) ?_
              exact ih31 y1 0 (y3 + 1) _ _ ls hR hF hP hD hS (lv_sub hl [2, 1, 0, 3] rfl)
            · rw [if_neg c32002] at hR hF
              refine lv_aload_n hx hb dX4_barFeed_46 rfl (lv_at hl 3 rfl) ?_
              refine va_get (D := D) (ci := 4) (v := .ref (am 1)) (C := RX4) (T := TX4) (N := 8) hx hb hts hinX4 hown hK hP 0 rfl rfl 0 (by decide) q1 (fun _ h9 => h9) rfl dX4_barFeed_47 ?_
              refine lv_iload_n hx hb dX4_barFeed_50 rfl (lv_at hl 2 rfl) ?_
              refine lv_iconst (v := 1) hx hb dX4_barFeed_51 (by decide) ?_
              refine kcsI (As := [.int y3, .int 1]) (rest := [.ref (am 1)]) E.1 (cx4_thing E y3 1) hX (va_cwS 2 hts gX4_barFeed_X4_thing rfl rfl rfl hdX4_thing.2 ⟨Nat.le_of_ble_eq_true rfl, Nat.le_of_ble_eq_true rfl⟩) hKs hP hD hS hA _ _ (kw_nil _) (kw_nil _).symm rfl rfl hl.1 (Nat.le_of_ble_eq_true rfl) dX4_barFeed_52 ⟨Nat.zero_le _, Nat.zero_le _⟩ (fun H locs hP hD hS => ?_)
              obtain ⟨hi32003, hF⟩ := hF
              refine va_iald hx hb hK hP 1 0 rfl rfl hi32003 dX4_barFeed_55 ?_
              refine lv_bipush (v := 30) hx hb dX4_barFeed_56 (by decide) ?_
              refine lv_icmp_lt (tgt := 65) hx hb dX4_barFeed_58 (by decide) (fun c32004 => ?_) (fun c32004 => ?_)
              · rw [if_pos c32004] at hR hF
                refine lv_iconst (v := 0) hx hb dX4_barFeed_65 (by decide) ?_
                refine lv_istore_n (lv' := [(2, .int 0), (1, .int y1), (3, .int y3), (0, .ref (am 0))]) hx hb dX4_barFeed_66 rfl hl (by decide) rfl (fun ls hl => ?_)
                refine lv_iinc (v := y3 + 1) (lv' := [(3, .int (y3 + 1)), (2, .int 0), (1, .int y1), (0, .ref (am 0))]) hx hb dX4_barFeed_67 hl (k := 2) rfl rfl (by decide) rfl (fun ls hl => ?_)
                refine lv_goto (tgt := 31) hx hb dX4_barFeed_70 (by decide) ?_
                exact ih31 y1 0 (y3 + 1) _ _ ls hR hF hP hD hS (lv_sub hl [2, 1, 0, 3] rfl)
              · rw [if_neg c32004] at hR hF
                refine lv_iconst (v := 1) hx hb dX4_barFeed_61 (by decide) ?_
                refine lv_goto (tgt := 66) hx hb dX4_barFeed_62 (by decide) ?_
                refine lv_istore_n (lv' := [(2, .int 1), (1, .int y1), (3, .int y3), (0, .ref (am 0))]) hx hb dX4_barFeed_66 rfl hl (by decide) rfl (fun ls hl => ?_)
                refine lv_iinc (v := y3 + 1) (lv' := [(3, .int (y3 + 1)), (2, .int 1), (1, .int y1), (0, .ref (am 0))]) hx hb dX4_barFeed_67 hl (k := 2) rfl rfl (by decide) rfl (fun ls hl => ?_)
                refine lv_goto (tgt := 31) hx hb dX4_barFeed_70 (by decide) ?_
                exact ih31 y1 1 (y3 + 1) _ _ ls hR hF hP hD hS (lv_sub hl [2, 1, 0, 3] rfl)
      exact loop31 kfu x1 1 0 _ _ ls hR hF hP hD hS (lv_sub hl [3, 1, 0, 2] rfl)
  · rw [if_pos c1] at hR hF
    refine lv_iconst (v := 1) hx hb dX4_barFeed_9 (by decide) ?_
    subst hR
    exact krI hx hb hr hlk hP hD hS dX4_barFeed_10 rfl rfl

theorem hdX4_feeds : yX4_feeds.cls = RX4 ∧ yX4_feeds.cls ≠ "java/lang/invoke/MethodHandle" ∧ yX4_feeds.cls ≠ "java/lang/invoke/VarHandle" ∧ (parseMethodDescriptor yX4_feeds.desc).map (fun d => d.parameters.length) = some 1 := by decide +kernel
def fx4_feeds_L100 : Nat → Int32 → Int32 → Int32 → Int32 → Int32 → (Nat → Int32) → Int32 × ((Nat → Int32))
  | 0, _, _, _, _, _, g => (0, g)
  | n100 + 1, y1, y2, y3, y4, y5, g => (if 6 ≤ y5 then (bnd (upd g 117 ((g 117) + 1)) (fun g101002 => (y2, g101002))) else (bnd (upd g (fx4_entry y4 y5).toNatClampNeg 0) (fun g101004 => fx4_feeds_L100 n100 y1 y2 y3 y4 (y5 + 1) g101004)))
def sx4_feeds_L100 : Nat → Int32 → Int32 → Int32 → Int32 → Int32 → (Nat → Int32) → Prop
  | 0, _, _, _, _, _, _ => False
  | n100 + 1, y1, y2, y3, y4, y5, g => (if 6 ≤ y5 then True else (vp_in (fx4_entry y4 y5) 1203 ∧ (bnd (upd g (fx4_entry y4 y5).toNatClampNeg 0) (fun g101004 => sx4_feeds_L100 n100 y1 y2 y3 y4 (y5 + 1) g101004))))
def fx4_feeds (g : (Nat → Int32)) (x1 : Int32) : Int32 × ((Nat → Int32)) := (bnd (fx4_counts g 0) (fun g1 => (bnd (upd g1 (fx4_thing (g1 36) 0).toNatClampNeg (g 17)) (fun g3 => (bnd (upd g3 (fx4_thing (g1 36) 1).toNatClampNeg 0) (fun g5 => (bnd (upd g5 (fx4_thing (g1 36) 2).toNatClampNeg x1) (fun g7 => (bnd (upd g7 (fx4_thing (g1 36) 3).toNatClampNeg 0) (fun g9 => (bnd (upd g9 36 ((g9 36) + 1)) (fun g10 => (bnd (upd g10 (fx4_entry (g10 117) 0).toNatClampNeg (g 17)) (fun g12 => fx4_feeds_L100 kfu x1 (g 17) (g1 36) (g10 117) 1 g12))))))))))))))
def sx4_feeds (g : (Nat → Int32)) (x1 : Int32) : Prop := (sx4_counts g 0 ∧ (bnd (fx4_counts g 0) (fun g1 => (vp_in (fx4_thing (g1 36) 0) 1203 ∧ (bnd (upd g1 (fx4_thing (g1 36) 0).toNatClampNeg (g 17)) (fun g3 => (vp_in (fx4_thing (g1 36) 1) 1203 ∧ (bnd (upd g3 (fx4_thing (g1 36) 1).toNatClampNeg 0) (fun g5 => (vp_in (fx4_thing (g1 36) 2) 1203 ∧ (bnd (upd g5 (fx4_thing (g1 36) 2).toNatClampNeg x1) (fun g7 => (vp_in (fx4_thing (g1 36) 3) 1203 ∧ (bnd (upd g7 (fx4_thing (g1 36) 3).toNatClampNeg 0) (fun g9 => (bnd (upd g9 36 ((g9 36) + 1)) (fun g10 => (vp_in (fx4_entry (g10 117) 0) 1203 ∧ (bnd (upd g10 (fx4_entry (g10 117) 0).toNatClampNeg (g 17)) (fun g12 => sx4_feeds_L100 kfu x1 (g 17) (g1 36) (g10 117) 1 g12))))))))))))))))))))
set_option maxHeartbeats 4000000 in
set_option maxRecDepth 100000 in
theorem cx4_feeds {l : Launch} {D : va_G} {cI cB cS cJ : ClassId} {K : State → Prop} (E : kE D cI cB cS cJ K) (am : Nat → Nat) (sv rf ln : Int32) (hs : Int64) (g : (Nat → Int32)) (x1 : Int32) (hF : sx4_feeds g x1) : kI l D K yX4_feeds wsX4_feeds 1 21 [.ref (am 0), .int x1] (mnW cI am sv rf ln hs g) (fx4_feeds g x1).1 (mnW cI am sv rf ln hs (fx4_feeds g x1).2) := by
  refine kI_of (own := RX4) (cc := cX4_feeds) (maxL := 6) (tys := kty cI cB cS cJ) (fun U h => (E.2 U h).1) (by decide) rfl rfl (Nat.le_of_ble_eq_true rfl) ?_
  intro p e s m below meth c A ls hx hb hr hml hts hown hlk hKs hK hP hD hA hS hl
  have hl : lv_has ls 6 [(0, .ref (am 0)), (1, .int x1)] := hl
  have hX : CallFix p m c cX4_feeds 6 s _ wsX4_feeds RX4 := ⟨hx, hb, hml, hown, hts⟩
  have hinX4 : ∀ w ∈ wsX40, w ∈ wsX4_feeds := fun w h => List.mem_cons_of_mem _ (List.mem_append_right _ h)
  have q1 := hts (.fieldLink RX4 7 "LabelStationModel" "now" "[I") (List.mem_of_getElem? (i := 1) rfl)
  generalize hR : fx4_feeds g x1 = R
  rw [fx4_feeds] at hR
  rw [sx4_feeds] at hF
  refine lv_aload_n hx hb dX4_feeds_0 rfl (lv_at hl 0 rfl) ?_
  refine va_get (D := D) (ci := 4) (v := .ref (am 1)) (C := RX4) (T := TX4) (N := 8) hx hb hts hinX4 hown hK hP 0 rfl rfl 0 (by decide) q1 (fun _ h9 => h9) rfl dX4_feeds_1 ?_
  refine lv_bipush (v := 17) hx hb dX4_feeds_4 (by decide) ?_
  refine va_iald hx hb hK hP 1 0 rfl rfl (kin_lit (j := 17) (n := 1203) (by decide) (by decide)) dX4_feeds_6 ?_
  refine kw_top (v := .int (g 17)) rfl ?_
  refine lv_istore_n (lv' := [(2, .int (g 17)), (0, .ref (am 0)), (1, .int x1)]) hx hb dX4_feeds_7 rfl hl (by decide) rfl (fun ls hl => ?_)
  refine lv_aload_n hx hb dX4_feeds_8 rfl (lv_at hl 1 rfl) ?_
  refine lv_iconst (v := 0) hx hb dX4_feeds_9 (by decide) ?_
  obtain ⟨hs13, hF⟩ := hF
  refine kcV (ci := 4) (q0 := 0) (As := [.int 0]) (rest := []) E.1 (cx4_counts E am sv rf ln hs g 0 hs13) hX (cwV 1 hts gX4_feeds_X4_counts rfl rfl rfl hdX4_counts ⟨Nat.le_of_ble_eq_true rfl, Nat.le_of_ble_eq_true rfl⟩) hKs hK hP hD hS hA _ _ (kw_self _) (kw_self _).symm rfl rfl rfl rfl hl.1 (Nat.le_of_ble_eq_true rfl) dX4_feeds_10 ⟨Nat.zero_le _, Nat.zero_le _⟩ (fun H locs hP hD hS => ?_)
  have hP : va_P D vwCl (mnW cI am sv rf ln hs (fx4_counts g 0)) H := hP
  have hD : va_D A (mnW cI am sv rf ln hs (fx4_counts g 0)) := hD
  generalize eg1 : fx4_counts g 0 = g1 at hR hF hP hD
  replace hR := bnd_e hR
  replace hF := bnd_p hF
  refine lv_aload_n hx hb dX4_feeds_13 rfl (lv_at hl 1 rfl) ?_
  refine va_get (D := D) (ci := 4) (v := .ref (am 1)) (C := RX4) (T := TX4) (N := 8) hx hb hts hinX4 hown hK hP 0 rfl rfl 0 (by decide) q1 (fun _ h9 => h9) rfl dX4_feeds_14 ?_
  refine lv_bipush (v := 36) hx hb dX4_feeds_17 (by decide) ?_
  refine va_iald hx hb hK hP 1 0 rfl rfl (kin_lit (j := 36) (n := 1203) (by decide) (by decide)) dX4_feeds_19 ?_
  refine kw_top (v := .int (g1 36)) rfl ?_
  refine lv_istore_n (lv' := [(3, .int (g1 36)), (2, .int (g 17)), (0, .ref (am 0)), (1, .int x1)]) hx hb dX4_feeds_20 rfl hl (by decide) rfl (fun ls hl => ?_)
  refine lv_aload_n hx hb dX4_feeds_21 rfl (lv_at hl 2 rfl) ?_
  refine va_get (D := D) (ci := 4) (v := .ref (am 1)) (C := RX4) (T := TX4) (N := 8) hx hb hts hinX4 hown hK hP 0 rfl rfl 0 (by decide) q1 (fun _ h9 => h9) rfl dX4_feeds_22 ?_
  refine lv_iload_n hx hb dX4_feeds_25 rfl (lv_at hl 0 rfl) ?_
  refine lv_iconst (v := 0) hx hb dX4_feeds_26 (by decide) ?_
  refine kcsI (As := [.int (g1 36), .int 0]) (rest := [.ref (am 1)]) E.1 (cx4_thing E (g1 36) 0) hX (va_cwS 2 hts gX4_feeds_X4_thing rfl rfl rfl hdX4_thing.2 ⟨Nat.le_of_ble_eq_true rfl, Nat.le_of_ble_eq_true rfl⟩) hKs hP hD hS hA _ _ (kw_nil _) (kw_nil _).symm rfl rfl hl.1 (Nat.le_of_ble_eq_true rfl) dX4_feeds_27 ⟨Nat.zero_le _, Nat.zero_le _⟩ (fun H locs hP hD hS => ?_)
  refine lv_iload_n hx hb dX4_feeds_30 rfl (lv_at hl 1 rfl) ?_
  obtain ⟨hi2, hF⟩ := hF
  refine va_iast hx hb hK hP hD hS 1 0 rfl rfl hi2 dX4_feeds_31 (fun H locs hP hD hS => ?_)
  have hP : va_P D vwCl (mnW cI am sv rf ln hs (upd g1 (fx4_thing (g1 36) 0).toNatClampNeg (g 17))) H := hP
  have hD : va_D A (mnW cI am sv rf ln hs (upd g1 (fx4_thing (g1 36) 0).toNatClampNeg (g 17))) := hD
  generalize eg3 : upd g1 (fx4_thing (g1 36) 0).toNatClampNeg (g 17) = g3 at hR hP hD hF
  replace hR := bnd_e hR
  replace hF := bnd_p hF
  refine lv_aload_n hx hb dX4_feeds_32 rfl (lv_at hl 2 rfl) ?_
  refine va_get (D := D) (ci := 4) (v := .ref (am 1)) (C := RX4) (T := TX4) (N := 8) hx hb hts hinX4 hown hK hP 0 rfl rfl 0 (by decide) q1 (fun _ h9 => h9) rfl dX4_feeds_33 ?_
  refine lv_iload_n hx hb dX4_feeds_36 rfl (lv_at hl 0 rfl) ?_
  refine lv_iconst (v := 1) hx hb dX4_feeds_37 (by decide) ?_
  refine kcsI (As := [.int (g1 36), .int 1]) (rest := [.ref (am 1)]) E.1 (cx4_thing E (g1 36) 1) hX (va_cwS 2 hts gX4_feeds_X4_thing rfl rfl rfl hdX4_thing.2 ⟨Nat.le_of_ble_eq_true rfl, Nat.le_of_ble_eq_true rfl⟩) hKs hP hD hS hA _ _ (kw_nil _) (kw_nil _).symm rfl rfl hl.1 (Nat.le_of_ble_eq_true rfl) dX4_feeds_38 ⟨Nat.zero_le _, Nat.zero_le _⟩ (fun H locs hP hD hS => ?_)
  refine lv_iconst (v := 0) hx hb dX4_feeds_41 (by decide) ?_
  obtain ⟨hi4, hF⟩ := hF
  refine va_iast hx hb hK hP hD hS 1 0 rfl rfl hi4 dX4_feeds_42 (fun H locs hP hD hS => ?_)
  have hP : va_P D vwCl (mnW cI am sv rf ln hs (upd g3 (fx4_thing (g1 36) 1).toNatClampNeg 0)) H := hP
  have hD : va_D A (mnW cI am sv rf ln hs (upd g3 (fx4_thing (g1 36) 1).toNatClampNeg 0)) := hD
  generalize eg5 : upd g3 (fx4_thing (g1 36) 1).toNatClampNeg 0 = g5 at hR hP hD hF
  replace hR := bnd_e hR
  replace hF := bnd_p hF
  refine lv_aload_n hx hb dX4_feeds_43 rfl (lv_at hl 2 rfl) ?_
  refine va_get (D := D) (ci := 4) (v := .ref (am 1)) (C := RX4) (T := TX4) (N := 8) hx hb hts hinX4 hown hK hP 0 rfl rfl 0 (by decide) q1 (fun _ h9 => h9) rfl dX4_feeds_44 ?_
  refine lv_iload_n hx hb dX4_feeds_47 rfl (lv_at hl 0 rfl) ?_
  refine lv_iconst (v := 2) hx hb dX4_feeds_48 (by decide) ?_
  refine kcsI (As := [.int (g1 36), .int 2]) (rest := [.ref (am 1)]) E.1 (cx4_thing E (g1 36) 2) hX (va_cwS 2 hts gX4_feeds_X4_thing rfl rfl rfl hdX4_thing.2 ⟨Nat.le_of_ble_eq_true rfl, Nat.le_of_ble_eq_true rfl⟩) hKs hP hD hS hA _ _ (kw_nil _) (kw_nil _).symm rfl rfl hl.1 (Nat.le_of_ble_eq_true rfl) dX4_feeds_49 ⟨Nat.zero_le _, Nat.zero_le _⟩ (fun H locs hP hD hS => ?_)
  refine lv_iload_n hx hb dX4_feeds_52 rfl (lv_at hl 3 rfl) ?_
  obtain ⟨hi6, hF⟩ := hF
  refine va_iast hx hb hK hP hD hS 1 0 rfl rfl hi6 dX4_feeds_53 (fun H locs hP hD hS => ?_)
  have hP : va_P D vwCl (mnW cI am sv rf ln hs (upd g5 (fx4_thing (g1 36) 2).toNatClampNeg x1)) H := hP
  have hD : va_D A (mnW cI am sv rf ln hs (upd g5 (fx4_thing (g1 36) 2).toNatClampNeg x1)) := hD
  generalize eg7 : upd g5 (fx4_thing (g1 36) 2).toNatClampNeg x1 = g7 at hR hP hD hF
  replace hR := bnd_e hR
  replace hF := bnd_p hF
  refine lv_aload_n hx hb dX4_feeds_54 rfl (lv_at hl 2 rfl) ?_
  refine va_get (D := D) (ci := 4) (v := .ref (am 1)) (C := RX4) (T := TX4) (N := 8) hx hb hts hinX4 hown hK hP 0 rfl rfl 0 (by decide) q1 (fun _ h9 => h9) rfl dX4_feeds_55 ?_
  refine lv_iload_n hx hb dX4_feeds_58 rfl (lv_at hl 0 rfl) ?_
  refine lv_iconst (v := 3) hx hb dX4_feeds_59 (by decide) ?_
  refine kcsI (As := [.int (g1 36), .int 3]) (rest := [.ref (am 1)]) E.1 (cx4_thing E (g1 36) 3) hX (va_cwS 2 hts gX4_feeds_X4_thing rfl rfl rfl hdX4_thing.2 ⟨Nat.le_of_ble_eq_true rfl, Nat.le_of_ble_eq_true rfl⟩) hKs hP hD hS hA _ _ (kw_nil _) (kw_nil _).symm rfl rfl hl.1 (Nat.le_of_ble_eq_true rfl) dX4_feeds_60 ⟨Nat.zero_le _, Nat.zero_le _⟩ (fun H locs hP hD hS => ?_)
  refine lv_iconst (v := 0) hx hb dX4_feeds_63 (by decide) ?_
  obtain ⟨hi8, hF⟩ := hF
  refine va_iast hx hb hK hP hD hS 1 0 rfl rfl hi8 dX4_feeds_64 (fun H locs hP hD hS => ?_)
  have hP : va_P D vwCl (mnW cI am sv rf ln hs (upd g7 (fx4_thing (g1 36) 3).toNatClampNeg 0)) H := hP
  have hD : va_D A (mnW cI am sv rf ln hs (upd g7 (fx4_thing (g1 36) 3).toNatClampNeg 0)) := hD
  generalize eg9 : upd g7 (fx4_thing (g1 36) 3).toNatClampNeg 0 = g9 at hR hP hD hF
  replace hR := bnd_e hR
  replace hF := bnd_p hF
  refine lv_aload_n hx hb dX4_feeds_65 rfl (lv_at hl 2 rfl) ?_
  refine va_get (D := D) (ci := 4) (v := .ref (am 1)) (C := RX4) (T := TX4) (N := 8) hx hb hts hinX4 hown hK hP 0 rfl rfl 0 (by decide) q1 (fun _ h9 => h9) rfl dX4_feeds_66 ?_
  refine lv_bipush (v := 36) hx hb dX4_feeds_69 (by decide) ?_
  refine lv_dup2_11 hx hb dX4_feeds_71 rfl rfl ?_
  refine va_iald hx hb hK hP 1 0 rfl rfl (kin_lit (j := 36) (n := 1203) (by decide) (by decide)) dX4_feeds_72 ?_
  refine kw_top (v := .int (g9 36)) rfl ?_
  refine lv_iconst (v := 1) hx hb dX4_feeds_73 (by decide) ?_
  refine lv_iadd hx hb dX4_feeds_74 ?_
  refine va_iast hx hb hK hP hD hS 1 0 rfl rfl (kin_lit (j := 36) (n := 1203) (by decide) (by decide)) dX4_feeds_75 (fun H locs hP hD hS => ?_)
  have hP : va_P D vwCl (mnW cI am sv rf ln hs (upd g9 36 ((g9 36) + 1))) H := hP
  have hD : va_D A (mnW cI am sv rf ln hs (upd g9 36 ((g9 36) + 1))) := hD
  generalize eg10 : upd g9 36 ((g9 36) + 1) = g10 at hR hP hD hF
  replace hR := bnd_e hR
  replace hF := bnd_p hF
  refine lv_aload_n hx hb dX4_feeds_76 rfl (lv_at hl 2 rfl) ?_
  refine va_get (D := D) (ci := 4) (v := .ref (am 1)) (C := RX4) (T := TX4) (N := 8) hx hb hts hinX4 hown hK hP 0 rfl rfl 0 (by decide) q1 (fun _ h9 => h9) rfl dX4_feeds_77 ?_
  refine lv_bipush (v := 117) hx hb dX4_feeds_80 (by decide) ?_
  refine va_iald hx hb hK hP 1 0 rfl rfl (kin_lit (j := 117) (n := 1203) (by decide) (by decide)) dX4_feeds_82 ?_
  refine kw_top (v := .int (g10 117)) rfl ?_
  refine lv_istore (lv' := [(4, .int (g10 117)), (3, .int (g1 36)), (2, .int (g 17)), (0, .ref (am 0)), (1, .int x1)]) hx hb dX4_feeds_83 hl (by decide) rfl (fun ls hl => ?_)
  refine lv_aload_n hx hb dX4_feeds_85 rfl (lv_at hl 3 rfl) ?_
  refine va_get (D := D) (ci := 4) (v := .ref (am 1)) (C := RX4) (T := TX4) (N := 8) hx hb hts hinX4 hown hK hP 0 rfl rfl 0 (by decide) q1 (fun _ h9 => h9) rfl dX4_feeds_86 ?_
  refine lv_iload hx hb dX4_feeds_89 (lv_at hl 0 rfl) ?_
  refine lv_iconst (v := 0) hx hb dX4_feeds_91 (by decide) ?_
  refine kcsI (As := [.int (g10 117), .int 0]) (rest := [.ref (am 1)]) E.1 (cx4_entry E (g10 117) 0) hX (va_cwS 2 hts gX4_feeds_X4_entry rfl rfl rfl hdX4_entry.2 ⟨Nat.le_of_ble_eq_true rfl, Nat.le_of_ble_eq_true rfl⟩) hKs hP hD hS hA _ _ (kw_nil _) (kw_nil _).symm rfl rfl hl.1 (Nat.le_of_ble_eq_true rfl) dX4_feeds_92 ⟨Nat.zero_le _, Nat.zero_le _⟩ (fun H locs hP hD hS => ?_)
  refine lv_iload_n hx hb dX4_feeds_95 rfl (lv_at hl 2 rfl) ?_
  obtain ⟨hi11, hF⟩ := hF
  refine va_iast hx hb hK hP hD hS 1 0 rfl rfl hi11 dX4_feeds_96 (fun H locs hP hD hS => ?_)
  have hP : va_P D vwCl (mnW cI am sv rf ln hs (upd g10 (fx4_entry (g10 117) 0).toNatClampNeg (g 17))) H := hP
  have hD : va_D A (mnW cI am sv rf ln hs (upd g10 (fx4_entry (g10 117) 0).toNatClampNeg (g 17))) := hD
  generalize eg12 : upd g10 (fx4_entry (g10 117) 0).toNatClampNeg (g 17) = g12 at hR hP hD hF
  replace hR := bnd_e hR
  replace hF := bnd_p hF
  refine lv_iconst (v := 1) hx hb dX4_feeds_97 (by decide) ?_
  refine lv_istore (lv' := [(5, .int 1), (4, .int (g10 117)), (3, .int (g1 36)), (2, .int (g 17)), (0, .ref (am 0)), (1, .int x1)]) hx hb dX4_feeds_98 hl (by decide) rfl (fun ls hl => ?_)
  have loop100 : ∀ (n100 : Nat) (y1 : Int32) (y2 : Int32) (y3 : Int32) (y4 : Int32) (y5 : Int32) (g : (Nat → Int32)) (H : Heap) (locs : List Loc) (ls : Array Slot), fx4_feeds_L100 n100 y1 y2 y3 y4 y5 g = R → sx4_feeds_L100 n100 y1 y2 y3 y4 y5 g → va_P D vwCl (mnW cI am sv rf ln hs g) H → va_D A (mnW cI am sv rf ln hs g) → va_S A s.heap H locs → lv_has ls 6 [(1, .int y1), (2, .int y2), (3, .int y3), (4, .int y4), (5, .int y5), (0, .ref (am 0))] → W p l e (kRm 1 21) s m ([.ref (am 0), .int x1] : List Value).toArray below meth c H locs 0 0 (kQI D below R.1 (mnW cI am sv rf ln hs R.2) A ([.ref (am 0), .int x1] : List Value).toArray s) (F0 m 100 ls []) := by
    intro n100
    induction n100 with
    | zero => intro y1 y2 y3 y4 y5 g H locs ls hR hF; exact hF.elim
    | succ n100 ih100 =>
      intro y1 y2 y3 y4 y5 g H locs ls hR hF hP hD hS hl
      rw [fx4_feeds_L100] at hR
      rw [sx4_feeds_L100] at hF
      refine lv_iload hx hb dX4_feeds_100 (lv_at hl 4 rfl) ?_
      refine lv_bipush (v := 6) hx hb dX4_feeds_102 (by decide) ?_
      refine lv_icmp_ge (tgt := 126) hx hb dX4_feeds_104 (by decide) (fun c101001 => ?_) (fun c101001 => ?_)
      · rw [if_pos c101001] at hR hF
        refine lv_aload_n hx hb dX4_feeds_126 rfl (lv_at hl 5 rfl) ?_
        refine va_get (D := D) (ci := 4) (v := .ref (am 1)) (C := RX4) (T := TX4) (N := 8) hx hb hts hinX4 hown hK hP 0 rfl rfl 0 (by decide) q1 (fun _ h9 => h9) rfl dX4_feeds_127 ?_
        refine lv_bipush (v := 117) hx hb dX4_feeds_130 (by decide) ?_
        refine lv_dup2_11 hx hb dX4_feeds_132 rfl rfl ?_
        refine va_iald hx hb hK hP 1 0 rfl rfl (kin_lit (j := 117) (n := 1203) (by decide) (by decide)) dX4_feeds_133 ?_
        refine kw_top (v := .int (g 117)) rfl ?_
        refine lv_iconst (v := 1) hx hb dX4_feeds_134 (by decide) ?_
        refine lv_iadd hx hb dX4_feeds_135 ?_
        refine va_iast hx hb hK hP hD hS 1 0 rfl rfl (kin_lit (j := 117) (n := 1203) (by decide) (by decide)) dX4_feeds_136 (fun H locs hP hD hS => ?_)
        have hP : va_P D vwCl (mnW cI am sv rf ln hs (upd g 117 ((g 117) + 1))) H := hP
        have hD : va_D A (mnW cI am sv rf ln hs (upd g 117 ((g 117) + 1))) := hD
        generalize eg101002 : upd g 117 ((g 117) + 1) = g101002 at hR hP hD
        replace hR := bnd_e hR
        refine lv_iload_n hx hb dX4_feeds_137 rfl (lv_at hl 1 rfl) ?_
        subst hR
        exact krI hx hb hr hlk hP hD hS dX4_feeds_138 rfl rfl
      · rw [if_neg c101001] at hR hF
        refine lv_aload_n hx hb dX4_feeds_107 rfl (lv_at hl 5 rfl) ?_
        refine va_get (D := D) (ci := 4) (v := .ref (am 1)) (C := RX4) (T := TX4) (N := 8) hx hb hts hinX4 hown hK hP 0 rfl rfl 0 (by decide) q1 (fun _ h9 => h9) rfl dX4_feeds_108 ?_
        refine lv_iload hx hb dX4_feeds_111 (lv_at hl 3 rfl) ?_
        refine lv_iload hx hb dX4_feeds_113 (lv_at hl 4 rfl) ?_
        refine kcsI (As := [.int y4, .int y5]) (rest := [.ref (am 1)]) E.1 (cx4_entry E y4 y5) hX (va_cwS 2 hts gX4_feeds_X4_entry rfl rfl rfl hdX4_entry.2 ⟨Nat.le_of_ble_eq_true rfl, Nat.le_of_ble_eq_true rfl⟩) hKs hP hD hS hA _ _ (kw_nil _) (kw_nil _).symm rfl rfl hl.1 (Nat.le_of_ble_eq_true rfl) dX4_feeds_115 ⟨Nat.zero_le _, Nat.zero_le _⟩ (fun H locs hP hD hS => ?_)
        refine lv_iconst (v := 0) hx hb dX4_feeds_118 (by decide) ?_
        obtain ⟨hi101003, hF⟩ := hF
        refine va_iast hx hb hK hP hD hS 1 0 rfl rfl hi101003 dX4_feeds_119 (fun H locs hP hD hS => ?_)
        have hP : va_P D vwCl (mnW cI am sv rf ln hs (upd g (fx4_entry y4 y5).toNatClampNeg 0)) H := hP
        have hD : va_D A (mnW cI am sv rf ln hs (upd g (fx4_entry y4 y5).toNatClampNeg 0)) := hD
        generalize eg101004 : upd g (fx4_entry y4 y5).toNatClampNeg 0 = g101004 at hR hP hD hF
        replace hR := bnd_e hR
        replace hF := bnd_p hF
        refine lv_iinc (v := y5 + 1) (lv' := [(5, .int (y5 + 1)), (1, .int y1), (2, .int y2), (3, .int y3), (4, .int y4), (0, .ref (am 0))]) hx hb dX4_feeds_120 hl (k := 4) rfl rfl (by decide) rfl (fun ls hl => ?_)
        refine lv_goto (tgt := 100) hx hb dX4_feeds_123 (by decide) ?_
        exact ih100 y1 y2 y3 y4 (y5 + 1) g101004 _ _ ls hR hF hP hD hS (lv_sub hl [1, 2, 3, 4, 0, 5] rfl)
  exact loop100 kfu x1 (g 17) (g1 36) (g10 117) 1 g12 _ _ ls hR hF hP hD hS (lv_sub hl [5, 3, 2, 1, 0, 4] rfl)

theorem hdX4_alarms : yX4_alarms.cls = RX4 ∧ yX4_alarms.cls ≠ "java/lang/invoke/MethodHandle" ∧ yX4_alarms.cls ≠ "java/lang/invoke/VarHandle" ∧ (parseMethodDescriptor yX4_alarms.desc).map (fun d => d.parameters.length) = some 1 := by decide +kernel
def fx4_alarms (g : (Nat → Int32)) (x1 : Int32) : (Nat → Int32) := (bnd (fx4_counts g (13 + x1)) (fun g1 => (if (g1 16) = 0 then (bnd (upd g1 16 x1) (fun g3 => (bnd (upd g3 15 0) (fun g4 => g4)))) else (bnd (upd g1 16 (g1 16)) (fun g5 => (bnd (upd g5 15 0) (fun g6 => g6)))))))
def sx4_alarms (g : (Nat → Int32)) (x1 : Int32) : Prop := sx4_counts g (13 + x1)
set_option maxHeartbeats 4000000 in
set_option maxRecDepth 100000 in
theorem cx4_alarms {l : Launch} {D : va_G} {cI cB cS cJ : ClassId} {K : State → Prop} (E : kE D cI cB cS cJ K) (am : Nat → Nat) (sv rf ln : Int32) (hs : Int64) (g : (Nat → Int32)) (x1 : Int32) (hF : sx4_alarms g x1) : kV l D K yX4_alarms wsX4_alarms 1 21 [.ref (am 0), .int x1] (mnW cI am sv rf ln hs g)  (mnW cI am sv rf ln hs (fx4_alarms g x1)) := by
  refine kV_of (own := RX4) (cc := cX4_alarms) (maxL := 2) (tys := kty cI cB cS cJ) (fun U h => (E.2 U h).1) (by decide) rfl rfl (Nat.le_of_ble_eq_true rfl) ?_
  intro p e s m below meth c A ls hx hb hr hml hts hown hlk hKs hK hP hD hA hS hl
  have hl : lv_has ls 2 [(0, .ref (am 0)), (1, .int x1)] := hl
  have hX : CallFix p m c cX4_alarms 2 s _ wsX4_alarms RX4 := ⟨hx, hb, hml, hown, hts⟩
  have hinX4 : ∀ w ∈ wsX40, w ∈ wsX4_alarms := fun w h => List.mem_cons_of_mem _ (List.mem_append_right _ h)
  have q1 := hts (.fieldLink RX4 7 "LabelStationModel" "now" "[I") (List.mem_of_getElem? (i := 1) rfl)
  generalize hR : fx4_alarms g x1 = R
  rw [fx4_alarms] at hR
  rw [sx4_alarms] at hF
  refine lv_aload_n hx hb dX4_alarms_0 rfl (lv_at hl 0 rfl) ?_
  refine lv_bipush (v := 13) hx hb dX4_alarms_1 (by decide) ?_
  refine lv_iload_n hx hb dX4_alarms_3 rfl (lv_at hl 1 rfl) ?_
  refine lv_iadd hx hb dX4_alarms_4 ?_
  have hs7 := hF
  refine kcV (ci := 4) (q0 := 0) (As := [.int (13 + x1)]) (rest := []) E.1 (cx4_counts E am sv rf ln hs g (13 + x1) hs7) hX (cwV 1 hts gX4_alarms_X4_counts rfl rfl rfl hdX4_counts ⟨Nat.le_of_ble_eq_true rfl, Nat.le_of_ble_eq_true rfl⟩) hKs hK hP hD hS hA _ _ (kw_self _) (kw_self _).symm rfl rfl rfl rfl hl.1 (Nat.le_of_ble_eq_true rfl) dX4_alarms_5 ⟨Nat.zero_le _, Nat.zero_le _⟩ (fun H locs hP hD hS => ?_)
  have hP : va_P D vwCl (mnW cI am sv rf ln hs (fx4_counts g (13 + x1))) H := hP
  have hD : va_D A (mnW cI am sv rf ln hs (fx4_counts g (13 + x1))) := hD
  generalize eg1 : fx4_counts g (13 + x1) = g1 at hR hP hD
  replace hR := bnd_e hR
  refine lv_aload_n hx hb dX4_alarms_8 rfl (lv_at hl 0 rfl) ?_
  refine va_get (D := D) (ci := 4) (v := .ref (am 1)) (C := RX4) (T := TX4) (N := 8) hx hb hts hinX4 hown hK hP 0 rfl rfl 0 (by decide) q1 (fun _ h9 => h9) rfl dX4_alarms_9 ?_
  refine lv_bipush (v := 16) hx hb dX4_alarms_12 (by decide) ?_
  refine lv_aload_n hx hb dX4_alarms_14 rfl (lv_at hl 0 rfl) ?_
  refine va_get (D := D) (ci := 4) (v := .ref (am 1)) (C := RX4) (T := TX4) (N := 8) hx hb hts hinX4 hown hK hP 0 rfl rfl 0 (by decide) q1 (fun _ h9 => h9) rfl dX4_alarms_15 ?_
  refine lv_bipush (v := 16) hx hb dX4_alarms_18 (by decide) ?_
  refine va_iald hx hb hK hP 1 0 rfl rfl (kin_lit (j := 16) (n := 1203) (by decide) (by decide)) dX4_alarms_20 ?_
  refine kw_top (v := .int (g1 16)) rfl ?_
  refine lv_if_ne (tgt := 28) hx hb dX4_alarms_21 (by decide) (fun c2 => ?_) (fun c2 => ?_)
  · rw [if_neg c2] at hR
    refine lv_aload_n hx hb dX4_alarms_28 rfl (lv_at hl 0 rfl) ?_
    refine va_get (D := D) (ci := 4) (v := .ref (am 1)) (C := RX4) (T := TX4) (N := 8) hx hb hts hinX4 hown hK hP 0 rfl rfl 0 (by decide) q1 (fun _ h9 => h9) rfl dX4_alarms_29 ?_
    refine lv_bipush (v := 16) hx hb dX4_alarms_32 (by decide) ?_
    refine va_iald hx hb hK hP 1 0 rfl rfl (kin_lit (j := 16) (n := 1203) (by decide) (by decide)) dX4_alarms_34 ?_
    refine kw_top (v := .int (g1 16)) rfl ?_
    refine va_iast hx hb hK hP hD hS 1 0 rfl rfl (kin_lit (j := 16) (n := 1203) (by decide) (by decide)) dX4_alarms_35 (fun H locs hP hD hS => ?_)
    have hP : va_P D vwCl (mnW cI am sv rf ln hs (upd g1 16 (g1 16))) H := hP
    have hD : va_D A (mnW cI am sv rf ln hs (upd g1 16 (g1 16))) := hD
    generalize eg5 : upd g1 16 (g1 16) = g5 at hR hP hD
    replace hR := bnd_e hR
    refine lv_aload_n hx hb dX4_alarms_36 rfl (lv_at hl 0 rfl) ?_
    refine va_get (D := D) (ci := 4) (v := .ref (am 1)) (C := RX4) (T := TX4) (N := 8) hx hb hts hinX4 hown hK hP 0 rfl rfl 0 (by decide) q1 (fun _ h9 => h9) rfl dX4_alarms_37 ?_
    refine lv_bipush (v := 15) hx hb dX4_alarms_40 (by decide) ?_
    refine lv_iconst (v := 0) hx hb dX4_alarms_42 (by decide) ?_
    refine va_iast hx hb hK hP hD hS 1 0 rfl rfl (kin_lit (j := 15) (n := 1203) (by decide) (by decide)) dX4_alarms_43 (fun H locs hP hD hS => ?_)
    have hP : va_P D vwCl (mnW cI am sv rf ln hs (upd g5 15 0)) H := hP
    have hD : va_D A (mnW cI am sv rf ln hs (upd g5 15 0)) := hD
    generalize eg6 : upd g5 15 0 = g6 at hR hP hD
    replace hR := bnd_e hR
    subst hR
    exact krV hx hb hr hlk hP hD hS dX4_alarms_44 rfl
  · rw [if_pos c2] at hR
    refine lv_iload_n hx hb dX4_alarms_24 rfl (lv_at hl 1 rfl) ?_
    refine lv_goto (tgt := 35) hx hb dX4_alarms_25 (by decide) ?_
    refine va_iast hx hb hK hP hD hS 1 0 rfl rfl (kin_lit (j := 16) (n := 1203) (by decide) (by decide)) dX4_alarms_35 (fun H locs hP hD hS => ?_)
    have hP : va_P D vwCl (mnW cI am sv rf ln hs (upd g1 16 x1)) H := hP
    have hD : va_D A (mnW cI am sv rf ln hs (upd g1 16 x1)) := hD
    generalize eg3 : upd g1 16 x1 = g3 at hR hP hD
    replace hR := bnd_e hR
    refine lv_aload_n hx hb dX4_alarms_36 rfl (lv_at hl 0 rfl) ?_
    refine va_get (D := D) (ci := 4) (v := .ref (am 1)) (C := RX4) (T := TX4) (N := 8) hx hb hts hinX4 hown hK hP 0 rfl rfl 0 (by decide) q1 (fun _ h9 => h9) rfl dX4_alarms_37 ?_
    refine lv_bipush (v := 15) hx hb dX4_alarms_40 (by decide) ?_
    refine lv_iconst (v := 0) hx hb dX4_alarms_42 (by decide) ?_
    refine va_iast hx hb hK hP hD hS 1 0 rfl rfl (kin_lit (j := 15) (n := 1203) (by decide) (by decide)) dX4_alarms_43 (fun H locs hP hD hS => ?_)
    have hP : va_P D vwCl (mnW cI am sv rf ln hs (upd g3 15 0)) H := hP
    have hD : va_D A (mnW cI am sv rf ln hs (upd g3 15 0)) := hD
    generalize eg4 : upd g3 15 0 = g4 at hR hP hD
    replace hR := bnd_e hR
    subst hR
    exact krV hx hb hr hlk hP hD hS dX4_alarms_44 rfl

theorem hdX4_tells : yX4_tells.cls = RX4 ∧ yX4_tells.cls ≠ "java/lang/invoke/MethodHandle" ∧ yX4_tells.cls ≠ "java/lang/invoke/VarHandle" ∧ (parseMethodDescriptor yX4_tells.desc).map (fun d => d.parameters.length) = some 3 := by decide +kernel
def fx4_tells (g : (Nat → Int32)) (x1 : Int32) (x2 : Int32) (x3 : Int32) : (Nat → Int32) := (bnd (fx4_recordOf g x1) (fun v1 => (if v1 = (-1) then (bnd (fx4_counts g 4) (fun g3 => g3)) else (if (g (fx4_entry v1 4).toNatClampNeg) = 1 then (bnd (fx4_counts g 4) (fun g7 => g7)) else (if x2 = 0 then (if (g (fx4_entry v1 2).toNatClampNeg) = 0 then (bnd (upd g (fx4_entry v1 2).toNatClampNeg x3) (fun g13 => g13)) else (bnd (upd g (fx4_entry v1 2).toNatClampNeg (g (fx4_entry v1 2).toNatClampNeg)) (fun g15 => g15))) else (if (g (fx4_entry v1 2).toNatClampNeg) = 1 then (bnd (upd g (fx4_entry v1 2).toNatClampNeg (g (fx4_entry v1 2).toNatClampNeg)) (fun g18 => g18)) else (if (g (fx4_entry v1 2).toNatClampNeg) = 2 then (bnd (upd g (fx4_entry v1 2).toNatClampNeg (g (fx4_entry v1 2).toNatClampNeg)) (fun g21 => g21)) else (if x3 = 1 then (bnd (upd g (fx4_entry v1 2).toNatClampNeg 1) (fun g24 => g24)) else (bnd (upd g (fx4_entry v1 2).toNatClampNeg 2) (fun g26 => g26))))))))))
def sx4_tells (g : (Nat → Int32)) (x1 : Int32) (x2 : Int32) (x3 : Int32) : Prop := (sx4_recordOf g x1 ∧ (bnd (fx4_recordOf g x1) (fun v1 => (if v1 = (-1) then sx4_counts g 4 else (vp_in (fx4_entry v1 4) 1203 ∧ (if (g (fx4_entry v1 4).toNatClampNeg) = 1 then sx4_counts g 4 else (vp_in (fx4_entry v1 2) 1203 ∧ (if x2 = 0 then (if (g (fx4_entry v1 2).toNatClampNeg) = 0 then vp_in (fx4_entry v1 2) 1203 else vp_in (fx4_entry v1 2) 1203) else (if (g (fx4_entry v1 2).toNatClampNeg) = 1 then vp_in (fx4_entry v1 2) 1203 else (if (g (fx4_entry v1 2).toNatClampNeg) = 2 then vp_in (fx4_entry v1 2) 1203 else (if x3 = 1 then vp_in (fx4_entry v1 2) 1203 else vp_in (fx4_entry v1 2) 1203)))))))))))
set_option maxHeartbeats 4000000 in
set_option maxRecDepth 100000 in
theorem cx4_tells {l : Launch} {D : va_G} {cI cB cS cJ : ClassId} {K : State → Prop} (E : kE D cI cB cS cJ K) (am : Nat → Nat) (sv rf ln : Int32) (hs : Int64) (g : (Nat → Int32)) (x1 : Int32) (x2 : Int32) (x3 : Int32) (hF : sx4_tells g x1 x2 x3) : kV l D K yX4_tells wsX4_tells 2 44 [.ref (am 0), .int x1, .int x2, .int x3] (mnW cI am sv rf ln hs g)  (mnW cI am sv rf ln hs (fx4_tells g x1 x2 x3)) := by
  refine kV_of (own := RX4) (cc := cX4_tells) (maxL := 6) (tys := kty cI cB cS cJ) (fun U h => (E.2 U h).1) (by decide) rfl rfl (Nat.le_of_ble_eq_true rfl) ?_
  intro p e s m below meth c A ls hx hb hr hml hts hown hlk hKs hK hP hD hA hS hl
  have hl : lv_has ls 6 [(0, .ref (am 0)), (1, .int x1), (2, .int x2), (3, .int x3)] := hl
  have hX : CallFix p m c cX4_tells 6 s _ wsX4_tells RX4 := ⟨hx, hb, hml, hown, hts⟩
  have hinX4 : ∀ w ∈ wsX40, w ∈ wsX4_tells := fun w h => List.mem_cons_of_mem _ (List.mem_append_right _ h)
  have q1 := hts (.fieldLink RX4 7 "LabelStationModel" "now" "[I") (List.mem_of_getElem? (i := 1) rfl)
  generalize hR : fx4_tells g x1 x2 x3 = R
  rw [fx4_tells] at hR
  rw [sx4_tells] at hF
  refine lv_aload_n hx hb dX4_tells_0 rfl (lv_at hl 0 rfl) ?_
  refine lv_iload_n hx hb dX4_tells_1 rfl (lv_at hl 1 rfl) ?_
  obtain ⟨hs27, hF⟩ := hF
  refine kcI (ci := 4) (q0 := 0) (As := [.int x1]) (rest := []) E.1 (cx4_recordOf E am sv rf ln hs g x1 hs27) hX (cwV 1 hts gX4_tells_X4_recordOf rfl rfl rfl hdX4_recordOf ⟨Nat.le_of_ble_eq_true rfl, Nat.le_of_ble_eq_true rfl⟩) hKs hK hP hD hS hA _ _ (kw_self _) (kw_self _).symm rfl rfl rfl rfl hl.1 (Nat.le_of_ble_eq_true rfl) dX4_tells_2 ⟨Nat.zero_le _, Nat.zero_le _⟩ (fun H locs hP hD hS => ?_)
  generalize ev1 : fx4_recordOf g x1 = v1 at hR hF ⊢
  replace hR := bnd_e hR
  replace hF := bnd_p hF
  refine lv_istore (lv' := [(4, .int v1), (0, .ref (am 0)), (1, .int x1), (2, .int x2), (3, .int x3)]) hx hb dX4_tells_5 hl (by decide) rfl (fun ls hl => ?_)
  refine lv_iload hx hb dX4_tells_7 (lv_at hl 0 rfl) ?_
  refine lv_iconst (v := (-1)) hx hb dX4_tells_9 (by decide) ?_
  refine lv_icmp_eq (tgt := 28) hx hb dX4_tells_10 (by decide) (fun c2 => ?_) (fun c2 => ?_)
  · rw [if_pos c2] at hR hF
    refine lv_aload_n hx hb dX4_tells_28 rfl (lv_at hl 1 rfl) ?_
    refine lv_iconst (v := 4) hx hb dX4_tells_29 (by decide) ?_
    have hs4 := hF
    refine kcV (ci := 4) (q0 := 0) (As := [.int 4]) (rest := []) E.1 (cx4_counts E am sv rf ln hs g 4 hs4) hX (cwV 1 hts gX4_tells_X4_counts rfl rfl rfl hdX4_counts ⟨Nat.le_of_ble_eq_true rfl, Nat.le_of_ble_eq_true rfl⟩) hKs hK hP hD hS hA _ _ (kw_self _) (kw_self _).symm rfl rfl rfl rfl hl.1 (Nat.le_of_ble_eq_true rfl) dX4_tells_30 ⟨Nat.zero_le _, Nat.zero_le _⟩ (fun H locs hP hD hS => ?_)
    have hP : va_P D vwCl (mnW cI am sv rf ln hs (fx4_counts g 4)) H := hP
    have hD : va_D A (mnW cI am sv rf ln hs (fx4_counts g 4)) := hD
    generalize eg3 : fx4_counts g 4 = g3 at hR hP hD
    replace hR := bnd_e hR
    subst hR
    exact krV hx hb hr hlk hP hD hS dX4_tells_33 rfl
  · rw [if_neg c2] at hR hF
    refine lv_aload_n hx hb dX4_tells_13 rfl (lv_at hl 1 rfl) ?_
    refine va_get (D := D) (ci := 4) (v := .ref (am 1)) (C := RX4) (T := TX4) (N := 8) hx hb hts hinX4 hown hK hP 0 rfl rfl 0 (by decide) q1 (fun _ h9 => h9) rfl dX4_tells_14 ?_
    refine lv_iload hx hb dX4_tells_17 (lv_at hl 0 rfl) ?_
    refine lv_iconst (v := 4) hx hb dX4_tells_19 (by decide) ?_
    refine kcsI (As := [.int v1, .int 4]) (rest := [.ref (am 1)]) E.1 (cx4_entry E v1 4) hX (va_cwS 2 hts gX4_tells_X4_entry rfl rfl rfl hdX4_entry.2 ⟨Nat.le_of_ble_eq_true rfl, Nat.le_of_ble_eq_true rfl⟩) hKs hP hD hS hA _ _ (kw_nil _) (kw_nil _).symm rfl rfl hl.1 (Nat.le_of_ble_eq_true rfl) dX4_tells_20 ⟨Nat.zero_le _, Nat.zero_le _⟩ (fun H locs hP hD hS => ?_)
    obtain ⟨hi5, hF⟩ := hF
    refine va_iald hx hb hK hP 1 0 rfl rfl hi5 dX4_tells_23 ?_
    refine lv_iconst (v := 1) hx hb dX4_tells_24 (by decide) ?_
    refine lv_icmp_ne (tgt := 34) hx hb dX4_tells_25 (by decide) (fun c6 => ?_) (fun c6 => ?_)
    · rw [if_neg c6] at hR hF
      refine lv_aload_n hx hb dX4_tells_34 rfl (lv_at hl 1 rfl) ?_
      refine va_get (D := D) (ci := 4) (v := .ref (am 1)) (C := RX4) (T := TX4) (N := 8) hx hb hts hinX4 hown hK hP 0 rfl rfl 0 (by decide) q1 (fun _ h9 => h9) rfl dX4_tells_35 ?_
      refine lv_iload hx hb dX4_tells_38 (lv_at hl 0 rfl) ?_
      refine lv_iconst (v := 2) hx hb dX4_tells_40 (by decide) ?_
      refine kcsI (As := [.int v1, .int 2]) (rest := [.ref (am 1)]) E.1 (cx4_entry E v1 2) hX (va_cwS 2 hts gX4_tells_X4_entry rfl rfl rfl hdX4_entry.2 ⟨Nat.le_of_ble_eq_true rfl, Nat.le_of_ble_eq_true rfl⟩) hKs hP hD hS hA _ _ (kw_nil _) (kw_nil _).symm rfl rfl hl.1 (Nat.le_of_ble_eq_true rfl) dX4_tells_41 ⟨Nat.zero_le _, Nat.zero_le _⟩ (fun H locs hP hD hS => ?_)
      obtain ⟨hi9, hF⟩ := hF
      refine va_iald hx hb hK hP 1 0 rfl rfl hi9 dX4_tells_44 ?_
      refine lv_istore (lv' := [(5, .int (g (fx4_entry v1 2).toNatClampNeg)), (4, .int v1), (0, .ref (am 0)), (1, .int x1), (2, .int x2), (3, .int x3)]) hx hb dX4_tells_45 hl (by decide) rfl (fun ls hl => ?_)
      refine lv_iload_n hx hb dX4_tells_47 rfl (lv_at hl 4 rfl) ?_
      refine lv_if_ne (tgt := 76) hx hb dX4_tells_48 (by decide) (fun c10 => ?_) (fun c10 => ?_)
      · rw [if_neg c10] at hR hF
        refine lv_aload_n hx hb dX4_tells_76 rfl (lv_at hl 2 rfl) ?_
        refine va_get (D := D) (ci := 4) (v := .ref (am 1)) (C := RX4) (T := TX4) (N := 8) hx hb hts hinX4 hown hK hP 0 rfl rfl 0 (by decide) q1 (fun _ h9 => h9) rfl dX4_tells_77 ?_
        refine lv_iload hx hb dX4_tells_80 (lv_at hl 1 rfl) ?_
        refine lv_iconst (v := 2) hx hb dX4_tells_82 (by decide) ?_
        refine kcsI (As := [.int v1, .int 2]) (rest := [.ref (am 1)]) E.1 (cx4_entry E v1 2) hX (va_cwS 2 hts gX4_tells_X4_entry rfl rfl rfl hdX4_entry.2 ⟨Nat.le_of_ble_eq_true rfl, Nat.le_of_ble_eq_true rfl⟩) hKs hP hD hS hA _ _ (kw_nil _) (kw_nil _).symm rfl rfl hl.1 (Nat.le_of_ble_eq_true rfl) dX4_tells_83 ⟨Nat.zero_le _, Nat.zero_le _⟩ (fun H locs hP hD hS => ?_)
        refine lv_iload hx hb dX4_tells_86 (lv_at hl 0 rfl) ?_
        refine lv_iconst (v := 1) hx hb dX4_tells_88 (by decide) ?_
        refine lv_icmp_eq (tgt := 98) hx hb dX4_tells_89 (by decide) (fun c16 => ?_) (fun c16 => ?_)
        · rw [if_pos c16] at hR hF
          refine lv_iload hx hb dX4_tells_98 (lv_at hl 0 rfl) ?_
          refine lv_goto (tgt := 113) hx hb dX4_tells_100 (by decide) ?_
          have hi17 := hF
          refine va_iast hx hb hK hP hD hS 1 0 rfl rfl hi17 dX4_tells_113 (fun H locs hP hD hS => ?_)
          have hP : va_P D vwCl (mnW cI am sv rf ln hs (upd g (fx4_entry v1 2).toNatClampNeg (g (fx4_entry v1 2).toNatClampNeg))) H := hP
          have hD : va_D A (mnW cI am sv rf ln hs (upd g (fx4_entry v1 2).toNatClampNeg (g (fx4_entry v1 2).toNatClampNeg))) := hD
          generalize eg18 : upd g (fx4_entry v1 2).toNatClampNeg (g (fx4_entry v1 2).toNatClampNeg) = g18 at hR hP hD
          replace hR := bnd_e hR
          subst hR
          exact krV hx hb hr hlk hP hD hS dX4_tells_114 rfl
        · rw [if_neg c16] at hR hF
          refine lv_iload hx hb dX4_tells_92 (lv_at hl 0 rfl) ?_
          refine lv_iconst (v := 2) hx hb dX4_tells_94 (by decide) ?_
          refine lv_icmp_ne (tgt := 103) hx hb dX4_tells_95 (by decide) (fun c19 => ?_) (fun c19 => ?_)
          · rw [if_neg c19] at hR hF
            refine lv_iload_n hx hb dX4_tells_103 rfl (lv_at hl 5 rfl) ?_
            refine lv_iconst (v := 1) hx hb dX4_tells_104 (by decide) ?_
            refine lv_icmp_ne (tgt := 112) hx hb dX4_tells_105 (by decide) (fun c22 => ?_) (fun c22 => ?_)
            · rw [if_neg c22] at hR hF
              refine lv_iconst (v := 2) hx hb dX4_tells_112 (by decide) ?_
              have hi25 := hF
              refine va_iast hx hb hK hP hD hS 1 0 rfl rfl hi25 dX4_tells_113 (fun H locs hP hD hS => ?_)
              have hP : va_P D vwCl (mnW cI am sv rf ln hs (upd g (fx4_entry v1 2).toNatClampNeg 2)) H := hP
              have hD : va_D A (mnW cI am sv rf ln hs (upd g (fx4_entry v1 2).toNatClampNeg 2)) := hD
              generalize eg26 : upd g (fx4_entry v1 2).toNatClampNeg 2 = g26 at hR hP hD
              replace hR := bnd_e hR
              subst hR
              exact krV hx hb hr hlk hP hD hS dX4_tells_114 rfl
            · rw [if_pos c22] at hR hF
              refine lv_iconst (v := 1) hx hb dX4_tells_108 (by decide) ?_
              refine lv_goto (tgt := 113) hx hb dX4_tells_109 (by decide) ?_
              have hi23 := hF
              refine va_iast hx hb hK hP hD hS 1 0 rfl rfl hi23 dX4_tells_113 (fun H locs hP hD hS => ?_)
              have hP : va_P D vwCl (mnW cI am sv rf ln hs (upd g (fx4_entry v1 2).toNatClampNeg 1)) H := hP
              have hD : va_D A (mnW cI am sv rf ln hs (upd g (fx4_entry v1 2).toNatClampNeg 1)) := hD
              generalize eg24 : upd g (fx4_entry v1 2).toNatClampNeg 1 = g24 at hR hP hD
              replace hR := bnd_e hR
              subst hR
              exact krV hx hb hr hlk hP hD hS dX4_tells_114 rfl
          · rw [if_pos c19] at hR hF
            refine lv_iload hx hb dX4_tells_98 (lv_at hl 0 rfl) ?_
            refine lv_goto (tgt := 113) hx hb dX4_tells_100 (by decide) ?_
            have hi20 := hF
            refine va_iast hx hb hK hP hD hS 1 0 rfl rfl hi20 dX4_tells_113 (fun H locs hP hD hS => ?_)
            have hP : va_P D vwCl (mnW cI am sv rf ln hs (upd g (fx4_entry v1 2).toNatClampNeg (g (fx4_entry v1 2).toNatClampNeg))) H := hP
            have hD : va_D A (mnW cI am sv rf ln hs (upd g (fx4_entry v1 2).toNatClampNeg (g (fx4_entry v1 2).toNatClampNeg))) := hD
            generalize eg21 : upd g (fx4_entry v1 2).toNatClampNeg (g (fx4_entry v1 2).toNatClampNeg) = g21 at hR hP hD
            replace hR := bnd_e hR
            subst hR
            exact krV hx hb hr hlk hP hD hS dX4_tells_114 rfl
      · rw [if_pos c10] at hR hF
        refine lv_aload_n hx hb dX4_tells_51 rfl (lv_at hl 2 rfl) ?_
        refine va_get (D := D) (ci := 4) (v := .ref (am 1)) (C := RX4) (T := TX4) (N := 8) hx hb hts hinX4 hown hK hP 0 rfl rfl 0 (by decide) q1 (fun _ h9 => h9) rfl dX4_tells_52 ?_
        refine lv_iload hx hb dX4_tells_55 (lv_at hl 1 rfl) ?_
        refine lv_iconst (v := 2) hx hb dX4_tells_57 (by decide) ?_
        refine kcsI (As := [.int v1, .int 2]) (rest := [.ref (am 1)]) E.1 (cx4_entry E v1 2) hX (va_cwS 2 hts gX4_tells_X4_entry rfl rfl rfl hdX4_entry.2 ⟨Nat.le_of_ble_eq_true rfl, Nat.le_of_ble_eq_true rfl⟩) hKs hP hD hS hA _ _ (kw_nil _) (kw_nil _).symm rfl rfl hl.1 (Nat.le_of_ble_eq_true rfl) dX4_tells_58 ⟨Nat.zero_le _, Nat.zero_le _⟩ (fun H locs hP hD hS => ?_)
        refine lv_iload hx hb dX4_tells_61 (lv_at hl 0 rfl) ?_
        refine lv_if_ne (tgt := 70) hx hb dX4_tells_63 (by decide) (fun c11 => ?_) (fun c11 => ?_)
        · rw [if_neg c11] at hR hF
          refine lv_iload hx hb dX4_tells_70 (lv_at hl 0 rfl) ?_
          have hi14 := hF
          refine va_iast hx hb hK hP hD hS 1 0 rfl rfl hi14 dX4_tells_72 (fun H locs hP hD hS => ?_)
          have hP : va_P D vwCl (mnW cI am sv rf ln hs (upd g (fx4_entry v1 2).toNatClampNeg (g (fx4_entry v1 2).toNatClampNeg))) H := hP
          have hD : va_D A (mnW cI am sv rf ln hs (upd g (fx4_entry v1 2).toNatClampNeg (g (fx4_entry v1 2).toNatClampNeg))) := hD
          generalize eg15 : upd g (fx4_entry v1 2).toNatClampNeg (g (fx4_entry v1 2).toNatClampNeg) = g15 at hR hP hD
          replace hR := bnd_e hR
          refine lv_goto (tgt := 114) hx hb dX4_tells_73 (by decide) ?_
          subst hR
          exact krV hx hb hr hlk hP hD hS dX4_tells_114 rfl
        · rw [if_pos c11] at hR hF
          refine lv_iload_n hx hb dX4_tells_66 rfl (lv_at hl 5 rfl) ?_
          refine lv_goto (tgt := 72) hx hb dX4_tells_67 (by decide) ?_
          have hi12 := hF
          refine va_iast hx hb hK hP hD hS 1 0 rfl rfl hi12 dX4_tells_72 (fun H locs hP hD hS => ?_)
          have hP : va_P D vwCl (mnW cI am sv rf ln hs (upd g (fx4_entry v1 2).toNatClampNeg x3)) H := hP
          have hD : va_D A (mnW cI am sv rf ln hs (upd g (fx4_entry v1 2).toNatClampNeg x3)) := hD
          generalize eg13 : upd g (fx4_entry v1 2).toNatClampNeg x3 = g13 at hR hP hD
          replace hR := bnd_e hR
          refine lv_goto (tgt := 114) hx hb dX4_tells_73 (by decide) ?_
          subst hR
          exact krV hx hb hr hlk hP hD hS dX4_tells_114 rfl
    · rw [if_pos c6] at hR hF
      refine lv_aload_n hx hb dX4_tells_28 rfl (lv_at hl 1 rfl) ?_
      refine lv_iconst (v := 4) hx hb dX4_tells_29 (by decide) ?_
      have hs8 := hF
      refine kcV (ci := 4) (q0 := 0) (As := [.int 4]) (rest := []) E.1 (cx4_counts E am sv rf ln hs g 4 hs8) hX (cwV 1 hts gX4_tells_X4_counts rfl rfl rfl hdX4_counts ⟨Nat.le_of_ble_eq_true rfl, Nat.le_of_ble_eq_true rfl⟩) hKs hK hP hD hS hA _ _ (kw_self _) (kw_self _).symm rfl rfl rfl rfl hl.1 (Nat.le_of_ble_eq_true rfl) dX4_tells_30 ⟨Nat.zero_le _, Nat.zero_le _⟩ (fun H locs hP hD hS => ?_)
      have hP : va_P D vwCl (mnW cI am sv rf ln hs (fx4_counts g 4)) H := hP
      have hD : va_D A (mnW cI am sv rf ln hs (fx4_counts g 4)) := hD
      generalize eg7 : fx4_counts g 4 = g7 at hR hP hD
      replace hR := bnd_e hR
      subst hR
      exact krV hx hb hr hlk hP hD hS dX4_tells_33 rfl

theorem hdX4_delivers : yX4_delivers.cls = RX4 ∧ yX4_delivers.cls ≠ "java/lang/invoke/MethodHandle" ∧ yX4_delivers.cls ≠ "java/lang/invoke/VarHandle" ∧ (parseMethodDescriptor yX4_delivers.desc).map (fun d => d.parameters.length) = some 0 := by decide +kernel
def fx4_delivers_L2 : Nat → Int32 → (Nat → Int32) → (Nat → Int32)
  | 0, _, g => g
  | n2 + 1, y1, g => (if (g 478) ≤ y1 then g else (if (g ((479 + (4 * y1)) + 3).toNatClampNeg) = (g 14) then (bnd (fx4_tells g (g (479 + (4 * y1)).toNatClampNeg) (g ((479 + (4 * y1)) + 1).toNatClampNeg) (g ((479 + (4 * y1)) + 2).toNatClampNeg)) (fun g3007 => (bnd (fx4_drops g3007 478 479 4 y1) (fun g3008 => fx4_delivers_L2 n2 y1 g3008)))) else fx4_delivers_L2 n2 (y1 + 1) g))
def sx4_delivers_L2 : Nat → Int32 → (Nat → Int32) → Prop
  | 0, _, _ => False
  | n2 + 1, y1, g => (if (g 478) ≤ y1 then True else (vp_in ((479 + (4 * y1)) + 3) 1203 ∧ (if (g ((479 + (4 * y1)) + 3).toNatClampNeg) = (g 14) then (vp_in (479 + (4 * y1)) 1203 ∧ (vp_in ((479 + (4 * y1)) + 1) 1203 ∧ (vp_in ((479 + (4 * y1)) + 2) 1203 ∧ (sx4_tells g (g (479 + (4 * y1)).toNatClampNeg) (g ((479 + (4 * y1)) + 1).toNatClampNeg) (g ((479 + (4 * y1)) + 2).toNatClampNeg) ∧ (bnd (fx4_tells g (g (479 + (4 * y1)).toNatClampNeg) (g ((479 + (4 * y1)) + 1).toNatClampNeg) (g ((479 + (4 * y1)) + 2).toNatClampNeg)) (fun g3007 => (sx4_drops g3007 478 479 4 y1 ∧ (bnd (fx4_drops g3007 478 479 4 y1) (fun g3008 => sx4_delivers_L2 n2 y1 g3008))))))))) else sx4_delivers_L2 n2 (y1 + 1) g)))
def fx4_delivers (g : (Nat → Int32)) : (Nat → Int32) := fx4_delivers_L2 kfu 0 g
def sx4_delivers (g : (Nat → Int32)) : Prop := sx4_delivers_L2 kfu 0 g
set_option maxHeartbeats 4000000 in
set_option maxRecDepth 100000 in
theorem cx4_delivers {l : Launch} {D : va_G} {cI cB cS cJ : ClassId} {K : State → Prop} (E : kE D cI cB cS cJ K) (am : Nat → Nat) (sv rf ln : Int32) (hs : Int64) (g : (Nat → Int32)) (hF : sx4_delivers g) : kV l D K yX4_delivers wsX4_delivers 3 69 [.ref (am 0)] (mnW cI am sv rf ln hs g)  (mnW cI am sv rf ln hs (fx4_delivers g)) := by
  refine kV_of (own := RX4) (cc := cX4_delivers) (maxL := 3) (tys := kty cI cB cS cJ) (fun U h => (E.2 U h).1) (by decide) rfl rfl (Nat.le_of_ble_eq_true rfl) ?_
  intro p e s m below meth c A ls hx hb hr hml hts hown hlk hKs hK hP hD hA hS hl
  have hl : lv_has ls 3 [(0, .ref (am 0))] := hl
  have hX : CallFix p m c cX4_delivers 3 s _ wsX4_delivers RX4 := ⟨hx, hb, hml, hown, hts⟩
  have hinX4 : ∀ w ∈ wsX40, w ∈ wsX4_delivers := fun w h => List.mem_cons_of_mem _ (List.mem_append_right _ h)
  have q1 := hts (.fieldLink RX4 7 "LabelStationModel" "now" "[I") (List.mem_of_getElem? (i := 1) rfl)
  generalize hR : fx4_delivers g = R
  rw [fx4_delivers] at hR
  rw [sx4_delivers] at hF
  refine lv_iconst (v := 0) hx hb dX4_delivers_0 (by decide) ?_
  refine lv_istore_n (lv' := [(1, .int 0), (0, .ref (am 0))]) hx hb dX4_delivers_1 rfl hl (by decide) rfl (fun ls hl => ?_)
  have loop2 : ∀ (n2 : Nat) (y1 : Int32) (g : (Nat → Int32)) (H : Heap) (locs : List Loc) (ls : Array Slot), fx4_delivers_L2 n2 y1 g = R → sx4_delivers_L2 n2 y1 g → va_P D vwCl (mnW cI am sv rf ln hs g) H → va_D A (mnW cI am sv rf ln hs g) → va_S A s.heap H locs → lv_has ls 3 [(1, .int y1), (0, .ref (am 0))] → W p l e (kRm 3 69) s m ([.ref (am 0)] : List Value).toArray below meth c H locs 0 0 (kQV D below (mnW cI am sv rf ln hs R) A ([.ref (am 0)] : List Value).toArray s) (F0 m 2 ls []) := by
    intro n2
    induction n2 with
    | zero => intro y1 g H locs ls hR hF; exact hF.elim
    | succ n2 ih2 =>
      intro y1 g H locs ls hR hF hP hD hS hl
      rw [fx4_delivers_L2] at hR
      rw [sx4_delivers_L2] at hF
      refine lv_iload_n hx hb dX4_delivers_2 rfl (lv_at hl 0 rfl) ?_
      refine lv_aload_n hx hb dX4_delivers_3 rfl (lv_at hl 1 rfl) ?_
      refine va_get (D := D) (ci := 4) (v := .ref (am 1)) (C := RX4) (T := TX4) (N := 8) hx hb hts hinX4 hown hK hP 0 rfl rfl 0 (by decide) q1 (fun _ h9 => h9) rfl dX4_delivers_4 ?_
      refine lv_sipush (v := 478) hx hb dX4_delivers_7 (by decide) ?_
      refine va_iald hx hb hK hP 1 0 rfl rfl (kin_lit (j := 478) (n := 1203) (by decide) (by decide)) dX4_delivers_10 ?_
      refine kw_top (v := .int (g 478)) rfl ?_
      refine lv_icmp_ge (tgt := 87) hx hb dX4_delivers_11 (by decide) (fun c3001 => ?_) (fun c3001 => ?_)
      · rw [if_pos c3001] at hR hF
        subst hR
        exact krV hx hb hr hlk hP hD hS dX4_delivers_87 rfl
      · rw [if_neg c3001] at hR hF
        refine lv_sipush (v := 479) hx hb dX4_delivers_14 (by decide) ?_
        refine lv_iconst (v := 4) hx hb dX4_delivers_17 (by decide) ?_
        refine lv_iload_n hx hb dX4_delivers_18 rfl (lv_at hl 0 rfl) ?_
        refine lv_imul hx hb dX4_delivers_19 ?_
        refine lv_iadd hx hb dX4_delivers_20 ?_
        refine lv_istore_n (lv' := [(2, .int (479 + (4 * y1))), (1, .int y1), (0, .ref (am 0))]) hx hb dX4_delivers_21 rfl hl (by decide) rfl (fun ls hl => ?_)
        refine lv_aload_n hx hb dX4_delivers_22 rfl (lv_at hl 2 rfl) ?_
        refine va_get (D := D) (ci := 4) (v := .ref (am 1)) (C := RX4) (T := TX4) (N := 8) hx hb hts hinX4 hown hK hP 0 rfl rfl 0 (by decide) q1 (fun _ h9 => h9) rfl dX4_delivers_23 ?_
        refine lv_iload_n hx hb dX4_delivers_26 rfl (lv_at hl 0 rfl) ?_
        refine lv_iconst (v := 3) hx hb dX4_delivers_27 (by decide) ?_
        refine lv_iadd hx hb dX4_delivers_28 ?_
        obtain ⟨hi3002, hF⟩ := hF
        refine va_iald hx hb hK hP 1 0 rfl rfl hi3002 dX4_delivers_29 ?_
        refine lv_aload_n hx hb dX4_delivers_30 rfl (lv_at hl 2 rfl) ?_
        refine va_get (D := D) (ci := 4) (v := .ref (am 1)) (C := RX4) (T := TX4) (N := 8) hx hb hts hinX4 hown hK hP 0 rfl rfl 0 (by decide) q1 (fun _ h9 => h9) rfl dX4_delivers_31 ?_
        refine lv_bipush (v := 14) hx hb dX4_delivers_34 (by decide) ?_
        refine va_iald hx hb hK hP 1 0 rfl rfl (kin_lit (j := 14) (n := 1203) (by decide) (by decide)) dX4_delivers_36 ?_
        refine kw_top (v := .int (g 14)) rfl ?_
        refine lv_icmp_ne (tgt := 81) hx hb dX4_delivers_37 (by decide) (fun c3003 => ?_) (fun c3003 => ?_)
        · rw [if_neg c3003] at hR hF
          refine lv_iinc (v := y1 + 1) (lv' := [(1, .int (y1 + 1)), (2, .int (479 + (4 * y1))), (0, .ref (am 0))]) hx hb dX4_delivers_81 hl (k := 1) rfl rfl (by decide) rfl (fun ls hl => ?_)
          refine lv_goto (tgt := 2) hx hb dX4_delivers_84 (by decide) ?_
          exact ih2 (y1 + 1) g _ _ ls hR hF hP hD hS (lv_sub hl [0, 2] rfl)
        · rw [if_pos c3003] at hR hF
          refine lv_aload_n hx hb dX4_delivers_40 rfl (lv_at hl 2 rfl) ?_
          refine lv_aload_n hx hb dX4_delivers_41 rfl (lv_at hl 2 rfl) ?_
          refine va_get (D := D) (ci := 4) (v := .ref (am 1)) (C := RX4) (T := TX4) (N := 8) hx hb hts hinX4 hown hK hP 0 rfl rfl 0 (by decide) q1 (fun _ h9 => h9) rfl dX4_delivers_42 ?_
          refine lv_iload_n hx hb dX4_delivers_45 rfl (lv_at hl 0 rfl) ?_
          obtain ⟨hi3004, hF⟩ := hF
          refine va_iald hx hb hK hP 1 0 rfl rfl hi3004 dX4_delivers_46 ?_
          refine lv_aload_n hx hb dX4_delivers_47 rfl (lv_at hl 2 rfl) ?_
          refine va_get (D := D) (ci := 4) (v := .ref (am 1)) (C := RX4) (T := TX4) (N := 8) hx hb hts hinX4 hown hK hP 0 rfl rfl 0 (by decide) q1 (fun _ h9 => h9) rfl dX4_delivers_48 ?_
          refine lv_iload_n hx hb dX4_delivers_51 rfl (lv_at hl 0 rfl) ?_
          refine lv_iconst (v := 1) hx hb dX4_delivers_52 (by decide) ?_
          refine lv_iadd hx hb dX4_delivers_53 ?_
          obtain ⟨hi3005, hF⟩ := hF
          refine va_iald hx hb hK hP 1 0 rfl rfl hi3005 dX4_delivers_54 ?_
          refine lv_aload_n hx hb dX4_delivers_55 rfl (lv_at hl 2 rfl) ?_
          refine va_get (D := D) (ci := 4) (v := .ref (am 1)) (C := RX4) (T := TX4) (N := 8) hx hb hts hinX4 hown hK hP 0 rfl rfl 0 (by decide) q1 (fun _ h9 => h9) rfl dX4_delivers_56 ?_
          refine lv_iload_n hx hb dX4_delivers_59 rfl (lv_at hl 0 rfl) ?_
          refine lv_iconst (v := 2) hx hb dX4_delivers_60 (by decide) ?_
          refine lv_iadd hx hb dX4_delivers_61 ?_
          obtain ⟨hi3006, hF⟩ := hF
          refine va_iald hx hb hK hP 1 0 rfl rfl hi3006 dX4_delivers_62 ?_
          obtain ⟨hs3010, hF⟩ := hF
          refine kcV (ci := 4) (q0 := 0) (As := [.int (g (479 + (4 * y1)).toNatClampNeg), .int (g ((479 + (4 * y1)) + 1).toNatClampNeg), .int (g ((479 + (4 * y1)) + 2).toNatClampNeg)]) (rest := []) E.1 (cx4_tells E am sv rf ln hs g (g (479 + (4 * y1)).toNatClampNeg) (g ((479 + (4 * y1)) + 1).toNatClampNeg) (g ((479 + (4 * y1)) + 2).toNatClampNeg) hs3010) hX (cwV 3 hts gX4_delivers_X4_tells rfl rfl rfl hdX4_tells ⟨Nat.le_of_ble_eq_true rfl, Nat.le_of_ble_eq_true rfl⟩) hKs hK hP hD hS hA _ _ (kw_self _) (kw_self _).symm rfl rfl rfl rfl hl.1 (Nat.le_of_ble_eq_true rfl) dX4_delivers_63 ⟨Nat.zero_le _, Nat.zero_le _⟩ (fun H locs hP hD hS => ?_)
          have hP : va_P D vwCl (mnW cI am sv rf ln hs (fx4_tells g (g (479 + (4 * y1)).toNatClampNeg) (g ((479 + (4 * y1)) + 1).toNatClampNeg) (g ((479 + (4 * y1)) + 2).toNatClampNeg))) H := hP
          have hD : va_D A (mnW cI am sv rf ln hs (fx4_tells g (g (479 + (4 * y1)).toNatClampNeg) (g ((479 + (4 * y1)) + 1).toNatClampNeg) (g ((479 + (4 * y1)) + 2).toNatClampNeg))) := hD
          generalize eg3007 : fx4_tells g (g (479 + (4 * y1)).toNatClampNeg) (g ((479 + (4 * y1)) + 1).toNatClampNeg) (g ((479 + (4 * y1)) + 2).toNatClampNeg) = g3007 at hR hF hP hD
          replace hR := bnd_e hR
          replace hF := bnd_p hF
          refine lv_aload_n hx hb dX4_delivers_66 rfl (lv_at hl 2 rfl) ?_
          refine lv_sipush (v := 478) hx hb dX4_delivers_67 (by decide) ?_
          refine lv_sipush (v := 479) hx hb dX4_delivers_70 (by decide) ?_
          refine lv_iconst (v := 4) hx hb dX4_delivers_73 (by decide) ?_
          refine lv_iload_n hx hb dX4_delivers_74 rfl (lv_at hl 1 rfl) ?_
          obtain ⟨hs3009, hF⟩ := hF
          refine kcV (ci := 4) (q0 := 0) (As := [.int 478, .int 479, .int 4, .int y1]) (rest := []) E.1 (cx4_drops E am sv rf ln hs g3007 478 479 4 y1 hs3009) hX (cwV 4 hts gX4_delivers_X4_drops rfl rfl rfl hdX4_drops ⟨Nat.le_of_ble_eq_true rfl, Nat.le_of_ble_eq_true rfl⟩) hKs hK hP hD hS hA _ _ (kw_self _) (kw_self _).symm rfl rfl rfl rfl hl.1 (Nat.le_of_ble_eq_true rfl) dX4_delivers_75 ⟨Nat.zero_le _, Nat.zero_le _⟩ (fun H locs hP hD hS => ?_)
          have hP : va_P D vwCl (mnW cI am sv rf ln hs (fx4_drops g3007 478 479 4 y1)) H := hP
          have hD : va_D A (mnW cI am sv rf ln hs (fx4_drops g3007 478 479 4 y1)) := hD
          generalize eg3008 : fx4_drops g3007 478 479 4 y1 = g3008 at hR hF hP hD
          replace hR := bnd_e hR
          replace hF := bnd_p hF
          refine lv_goto (tgt := 84) hx hb dX4_delivers_78 (by decide) ?_
          refine lv_goto (tgt := 2) hx hb dX4_delivers_84 (by decide) ?_
          exact ih2 y1 g3008 _ _ ls hR hF hP hD hS (lv_sub hl [1, 2] rfl)
  exact loop2 kfu 0 g _ _ ls hR hF hP hD hS (lv_sub hl [0, 1] rfl)

theorem hdX4_arrives : yX4_arrives.cls = RX4 ∧ yX4_arrives.cls ≠ "java/lang/invoke/MethodHandle" ∧ yX4_arrives.cls ≠ "java/lang/invoke/VarHandle" ∧ (parseMethodDescriptor yX4_arrives.desc).map (fun d => d.parameters.length) = some 0 := by decide +kernel
def fx4_arrives_L94 : Nat → Int32 → Int32 → (Nat → Int32) → (Nat → Int32)
  | 0, _, _, g => g
  | n94 + 1, y1, y2, g => (if (g 1040) ≤ y2 then g else (if (g 14) ≤ (g (1041 + y2).toNatClampNeg) then fx4_arrives_L94 n94 y1 (y2 + 1) g else (bnd (fx4_drops g 1040 1041 1 y2) (fun g95004 => (bnd (fx4_alarms g95004 2) (fun g95005 => fx4_arrives_L94 n94 y1 y2 g95005))))))
def sx4_arrives_L94 : Nat → Int32 → Int32 → (Nat → Int32) → Prop
  | 0, _, _, _ => False
  | n94 + 1, y1, y2, g => (if (g 1040) ≤ y2 then True else (vp_in (1041 + y2) 1203 ∧ (if (g 14) ≤ (g (1041 + y2).toNatClampNeg) then sx4_arrives_L94 n94 y1 (y2 + 1) g else (sx4_drops g 1040 1041 1 y2 ∧ (bnd (fx4_drops g 1040 1041 1 y2) (fun g95004 => (sx4_alarms g95004 2 ∧ (bnd (fx4_alarms g95004 2) (fun g95005 => sx4_arrives_L94 n94 y1 y2 g95005)))))))))
def fx4_arrives_L2 : Nat → Int32 → (Nat → Int32) → (Nat → Int32)
  | 0, _, g => g
  | n2 + 1, y1, g => (if (g 959) ≤ y1 then fx4_arrives_L94 kfu y1 0 g else (if (g (960 + y1).toNatClampNeg) = (g 14) then (bnd (fx4_drops g 959 960 1 y1) (fun g3004 => (if (g3004 1040) ≤ 0 then (bnd (fx4_alarms g3004 3) (fun g3006 => fx4_arrives_L2 n2 y1 g3006)) else (bnd (fx4_drops g3004 1040 1041 1 0) (fun g3008 => (bnd (fx4_counts g3008 6) (fun g3009 => fx4_arrives_L2 n2 y1 g3009))))))) else fx4_arrives_L2 n2 (y1 + 1) g))
def sx4_arrives_L2 : Nat → Int32 → (Nat → Int32) → Prop
  | 0, _, _ => False
  | n2 + 1, y1, g => (if (g 959) ≤ y1 then sx4_arrives_L94 kfu y1 0 g else (vp_in (960 + y1) 1203 ∧ (if (g (960 + y1).toNatClampNeg) = (g 14) then (sx4_drops g 959 960 1 y1 ∧ (bnd (fx4_drops g 959 960 1 y1) (fun g3004 => (if (g3004 1040) ≤ 0 then (sx4_alarms g3004 3 ∧ (bnd (fx4_alarms g3004 3) (fun g3006 => sx4_arrives_L2 n2 y1 g3006))) else (sx4_drops g3004 1040 1041 1 0 ∧ (bnd (fx4_drops g3004 1040 1041 1 0) (fun g3008 => (sx4_counts g3008 6 ∧ (bnd (fx4_counts g3008 6) (fun g3009 => sx4_arrives_L2 n2 y1 g3009)))))))))) else sx4_arrives_L2 n2 (y1 + 1) g)))
def fx4_arrives (g : (Nat → Int32)) : (Nat → Int32) := fx4_arrives_L2 kfu 0 g
def sx4_arrives (g : (Nat → Int32)) : Prop := sx4_arrives_L2 kfu 0 g
set_option maxHeartbeats 4000000 in
set_option maxRecDepth 100000 in
theorem cx4_arrives {l : Launch} {D : va_G} {cI cB cS cJ : ClassId} {K : State → Prop} (E : kE D cI cB cS cJ K) (am : Nat → Nat) (sv rf ln : Int32) (hs : Int64) (g : (Nat → Int32)) (hF : sx4_arrives g) : kV l D K yX4_arrives wsX4_arrives 2 42 [.ref (am 0)] (mnW cI am sv rf ln hs g)  (mnW cI am sv rf ln hs (fx4_arrives g)) := by
  refine kV_of (own := RX4) (cc := cX4_arrives) (maxL := 3) (tys := kty cI cB cS cJ) (fun U h => (E.2 U h).1) (by decide) rfl rfl (Nat.le_of_ble_eq_true rfl) ?_
  intro p e s m below meth c A ls hx hb hr hml hts hown hlk hKs hK hP hD hA hS hl
  have hl : lv_has ls 3 [(0, .ref (am 0))] := hl
  have hX : CallFix p m c cX4_arrives 3 s _ wsX4_arrives RX4 := ⟨hx, hb, hml, hown, hts⟩
  have hinX4 : ∀ w ∈ wsX40, w ∈ wsX4_arrives := fun w h => List.mem_cons_of_mem _ (List.mem_append_right _ h)
  have q1 := hts (.fieldLink RX4 7 "LabelStationModel" "now" "[I") (List.mem_of_getElem? (i := 1) rfl)
  generalize hR : fx4_arrives g = R
  rw [fx4_arrives] at hR
  rw [sx4_arrives] at hF
  refine lv_iconst (v := 0) hx hb dX4_arrives_0 (by decide) ?_
  refine lv_istore_n (lv' := [(1, .int 0), (0, .ref (am 0))]) hx hb dX4_arrives_1 rfl hl (by decide) rfl (fun ls hl => ?_)
  have loop2 : ∀ (n2 : Nat) (y1 : Int32) (g : (Nat → Int32)) (H : Heap) (locs : List Loc) (ls : Array Slot), fx4_arrives_L2 n2 y1 g = R → sx4_arrives_L2 n2 y1 g → va_P D vwCl (mnW cI am sv rf ln hs g) H → va_D A (mnW cI am sv rf ln hs g) → va_S A s.heap H locs → lv_has ls 3 [(1, .int y1), (0, .ref (am 0))] → W p l e (kRm 2 42) s m ([.ref (am 0)] : List Value).toArray below meth c H locs 0 0 (kQV D below (mnW cI am sv rf ln hs R) A ([.ref (am 0)] : List Value).toArray s) (F0 m 2 ls []) := by
    intro n2
    induction n2 with
    | zero => intro y1 g H locs ls hR hF; exact hF.elim
    | succ n2 ih2 =>
      intro y1 g H locs ls hR hF hP hD hS hl
      rw [fx4_arrives_L2] at hR
      rw [sx4_arrives_L2] at hF
      refine lv_iload_n hx hb dX4_arrives_2 rfl (lv_at hl 0 rfl) ?_
      refine lv_aload_n hx hb dX4_arrives_3 rfl (lv_at hl 1 rfl) ?_
      refine va_get (D := D) (ci := 4) (v := .ref (am 1)) (C := RX4) (T := TX4) (N := 8) hx hb hts hinX4 hown hK hP 0 rfl rfl 0 (by decide) q1 (fun _ h9 => h9) rfl dX4_arrives_4 ?_
      refine lv_sipush (v := 959) hx hb dX4_arrives_7 (by decide) ?_
      refine va_iald hx hb hK hP 1 0 rfl rfl (kin_lit (j := 959) (n := 1203) (by decide) (by decide)) dX4_arrives_10 ?_
      refine kw_top (v := .int (g 959)) rfl ?_
      refine lv_icmp_ge (tgt := 92) hx hb dX4_arrives_11 (by decide) (fun c3001 => ?_) (fun c3001 => ?_)
      · rw [if_pos c3001] at hR hF
        refine lv_iconst (v := 0) hx hb dX4_arrives_92 (by decide) ?_
        refine lv_istore_n (lv' := [(2, .int 0), (1, .int y1), (0, .ref (am 0))]) hx hb dX4_arrives_93 rfl hl (by decide) rfl (fun ls hl => ?_)
        have loop94 : ∀ (n94 : Nat) (y1 : Int32) (y2 : Int32) (g : (Nat → Int32)) (H : Heap) (locs : List Loc) (ls : Array Slot), fx4_arrives_L94 n94 y1 y2 g = R → sx4_arrives_L94 n94 y1 y2 g → va_P D vwCl (mnW cI am sv rf ln hs g) H → va_D A (mnW cI am sv rf ln hs g) → va_S A s.heap H locs → lv_has ls 3 [(1, .int y1), (2, .int y2), (0, .ref (am 0))] → W p l e (kRm 2 42) s m ([.ref (am 0)] : List Value).toArray below meth c H locs 0 0 (kQV D below (mnW cI am sv rf ln hs R) A ([.ref (am 0)] : List Value).toArray s) (F0 m 94 ls []) := by
          intro n94
          induction n94 with
          | zero => intro y1 y2 g H locs ls hR hF; exact hF.elim
          | succ n94 ih94 =>
            intro y1 y2 g H locs ls hR hF hP hD hS hl
            rw [fx4_arrives_L94] at hR
            rw [sx4_arrives_L94] at hF
            refine lv_iload_n hx hb dX4_arrives_94 rfl (lv_at hl 1 rfl) ?_
            refine lv_aload_n hx hb dX4_arrives_95 rfl (lv_at hl 2 rfl) ?_
            refine va_get (D := D) (ci := 4) (v := .ref (am 1)) (C := RX4) (T := TX4) (N := 8) hx hb hts hinX4 hown hK hP 0 rfl rfl 0 (by decide) q1 (fun _ h9 => h9) rfl dX4_arrives_96 ?_
            refine lv_sipush (v := 1040) hx hb dX4_arrives_99 (by decide) ?_
            refine va_iald hx hb hK hP 1 0 rfl rfl (kin_lit (j := 1040) (n := 1203) (by decide) (by decide)) dX4_arrives_102 ?_
            refine kw_top (v := .int (g 1040)) rfl ?_
            refine lv_icmp_ge (tgt := 152) hx hb dX4_arrives_103 (by decide) (fun c95001 => ?_) (fun c95001 => ?_)
            · rw [if_pos c95001] at hR hF
              subst hR
              exact krV hx hb hr hlk hP hD hS dX4_arrives_152 rfl
            · rw [if_neg c95001] at hR hF
              refine lv_aload_n hx hb dX4_arrives_106 rfl (lv_at hl 2 rfl) ?_
              refine va_get (D := D) (ci := 4) (v := .ref (am 1)) (C := RX4) (T := TX4) (N := 8) hx hb hts hinX4 hown hK hP 0 rfl rfl 0 (by decide) q1 (fun _ h9 => h9) rfl dX4_arrives_107 ?_
              refine lv_sipush (v := 1041) hx hb dX4_arrives_110 (by decide) ?_
              refine lv_iload_n hx hb dX4_arrives_113 rfl (lv_at hl 1 rfl) ?_
              refine lv_iadd hx hb dX4_arrives_114 ?_
              obtain ⟨hi95002, hF⟩ := hF
              refine va_iald hx hb hK hP 1 0 rfl rfl hi95002 dX4_arrives_115 ?_
              refine lv_aload_n hx hb dX4_arrives_116 rfl (lv_at hl 2 rfl) ?_
              refine va_get (D := D) (ci := 4) (v := .ref (am 1)) (C := RX4) (T := TX4) (N := 8) hx hb hts hinX4 hown hK hP 0 rfl rfl 0 (by decide) q1 (fun _ h9 => h9) rfl dX4_arrives_117 ?_
              refine lv_bipush (v := 14) hx hb dX4_arrives_120 (by decide) ?_
              refine va_iald hx hb hK hP 1 0 rfl rfl (kin_lit (j := 14) (n := 1203) (by decide) (by decide)) dX4_arrives_122 ?_
              refine kw_top (v := .int (g 14)) rfl ?_
              refine lv_icmp_ge (tgt := 146) hx hb dX4_arrives_123 (by decide) (fun c95003 => ?_) (fun c95003 => ?_)
              · rw [if_pos c95003] at hR hF
                refine lv_iinc (v := y2 + 1) (lv' := [(2, .int (y2 + 1)), (1, .int y1), (0, .ref (am 0))]) hx hb dX4_arrives_146 hl (k := 1) rfl rfl (by decide) rfl (fun ls hl => ?_)
                refine lv_goto (tgt := 94) hx hb dX4_arrives_149 (by decide) ?_
                exact ih94 y1 (y2 + 1) g _ _ ls hR hF hP hD hS (lv_sub hl [1, 0, 2] rfl)
              · rw [if_neg c95003] at hR hF
                refine lv_aload_n hx hb dX4_arrives_126 rfl (lv_at hl 2 rfl) ?_
                refine lv_sipush (v := 1040) hx hb dX4_arrives_127 (by decide) ?_
                refine lv_sipush (v := 1041) hx hb dX4_arrives_130 (by decide) ?_
                refine lv_iconst (v := 1) hx hb dX4_arrives_133 (by decide) ?_
                refine lv_iload_n hx hb dX4_arrives_134 rfl (lv_at hl 1 rfl) ?_
                obtain ⟨hs95007, hF⟩ := hF
                refine kcV (ci := 4) (q0 := 0) (As := [.int 1040, .int 1041, .int 1, .int y2]) (rest := []) E.1 (cx4_drops E am sv rf ln hs g 1040 1041 1 y2 hs95007) hX (cwV 4 hts gX4_arrives_X4_drops rfl rfl rfl hdX4_drops ⟨Nat.le_of_ble_eq_true rfl, Nat.le_of_ble_eq_true rfl⟩) hKs hK hP hD hS hA _ _ (kw_self _) (kw_self _).symm rfl rfl rfl rfl hl.1 (Nat.le_of_ble_eq_true rfl) dX4_arrives_135 ⟨Nat.zero_le _, Nat.zero_le _⟩ (fun H locs hP hD hS => ?_)
                have hP : va_P D vwCl (mnW cI am sv rf ln hs (fx4_drops g 1040 1041 1 y2)) H := hP
                have hD : va_D A (mnW cI am sv rf ln hs (fx4_drops g 1040 1041 1 y2)) := hD
                generalize eg95004 : fx4_drops g 1040 1041 1 y2 = g95004 at hR hF hP hD
                replace hR := bnd_e hR
                replace hF := bnd_p hF
                refine lv_aload_n hx hb dX4_arrives_138 rfl (lv_at hl 2 rfl) ?_
                refine lv_iconst (v := 2) hx hb dX4_arrives_139 (by decide) ?_
                obtain ⟨hs95006, hF⟩ := hF
                refine kcV (ci := 4) (q0 := 0) (As := [.int 2]) (rest := []) E.1 (cx4_alarms E am sv rf ln hs g95004 2 hs95006) hX (cwV 1 hts gX4_arrives_X4_alarms rfl rfl rfl hdX4_alarms ⟨Nat.le_of_ble_eq_true rfl, Nat.le_of_ble_eq_true rfl⟩) hKs hK hP hD hS hA _ _ (kw_self _) (kw_self _).symm rfl rfl rfl rfl hl.1 (Nat.le_of_ble_eq_true rfl) dX4_arrives_140 ⟨Nat.zero_le _, Nat.zero_le _⟩ (fun H locs hP hD hS => ?_)
                have hP : va_P D vwCl (mnW cI am sv rf ln hs (fx4_alarms g95004 2)) H := hP
                have hD : va_D A (mnW cI am sv rf ln hs (fx4_alarms g95004 2)) := hD
                generalize eg95005 : fx4_alarms g95004 2 = g95005 at hR hF hP hD
                replace hR := bnd_e hR
                replace hF := bnd_p hF
                refine lv_goto (tgt := 94) hx hb dX4_arrives_143 (by decide) ?_
                exact ih94 y1 y2 g95005 _ _ ls hR hF hP hD hS (lv_sub hl [0, 1, 2] rfl)
        exact loop94 kfu y1 0 g _ _ ls hR hF hP hD hS (lv_sub hl [1, 0, 2] rfl)
      · rw [if_neg c3001] at hR hF
        refine lv_aload_n hx hb dX4_arrives_14 rfl (lv_at hl 1 rfl) ?_
        refine va_get (D := D) (ci := 4) (v := .ref (am 1)) (C := RX4) (T := TX4) (N := 8) hx hb hts hinX4 hown hK hP 0 rfl rfl 0 (by decide) q1 (fun _ h9 => h9) rfl dX4_arrives_15 ?_
        refine lv_sipush (v := 960) hx hb dX4_arrives_18 (by decide) ?_
        refine lv_iload_n hx hb dX4_arrives_21 rfl (lv_at hl 0 rfl) ?_
        refine lv_iadd hx hb dX4_arrives_22 ?_
        obtain ⟨hi3002, hF⟩ := hF
        refine va_iald hx hb hK hP 1 0 rfl rfl hi3002 dX4_arrives_23 ?_
        refine lv_aload_n hx hb dX4_arrives_24 rfl (lv_at hl 1 rfl) ?_
        refine va_get (D := D) (ci := 4) (v := .ref (am 1)) (C := RX4) (T := TX4) (N := 8) hx hb hts hinX4 hown hK hP 0 rfl rfl 0 (by decide) q1 (fun _ h9 => h9) rfl dX4_arrives_25 ?_
        refine lv_bipush (v := 14) hx hb dX4_arrives_28 (by decide) ?_
        refine va_iald hx hb hK hP 1 0 rfl rfl (kin_lit (j := 14) (n := 1203) (by decide) (by decide)) dX4_arrives_30 ?_
        refine kw_top (v := .int (g 14)) rfl ?_
        refine lv_icmp_ne (tgt := 86) hx hb dX4_arrives_31 (by decide) (fun c3003 => ?_) (fun c3003 => ?_)
        · rw [if_neg c3003] at hR hF
          refine lv_iinc (v := y1 + 1) (lv' := [(1, .int (y1 + 1)), (0, .ref (am 0))]) hx hb dX4_arrives_86 hl (k := 0) rfl rfl (by decide) rfl (fun ls hl => ?_)
          refine lv_goto (tgt := 2) hx hb dX4_arrives_89 (by decide) ?_
          exact ih2 (y1 + 1) g _ _ ls hR hF hP hD hS (lv_sub hl [0, 1] rfl)
        · rw [if_pos c3003] at hR hF
          refine lv_aload_n hx hb dX4_arrives_34 rfl (lv_at hl 1 rfl) ?_
          refine lv_sipush (v := 959) hx hb dX4_arrives_35 (by decide) ?_
          refine lv_sipush (v := 960) hx hb dX4_arrives_38 (by decide) ?_
          refine lv_iconst (v := 1) hx hb dX4_arrives_41 (by decide) ?_
          refine lv_iload_n hx hb dX4_arrives_42 rfl (lv_at hl 0 rfl) ?_
          obtain ⟨hs3012, hF⟩ := hF
          refine kcV (ci := 4) (q0 := 0) (As := [.int 959, .int 960, .int 1, .int y1]) (rest := []) E.1 (cx4_drops E am sv rf ln hs g 959 960 1 y1 hs3012) hX (cwV 4 hts gX4_arrives_X4_drops rfl rfl rfl hdX4_drops ⟨Nat.le_of_ble_eq_true rfl, Nat.le_of_ble_eq_true rfl⟩) hKs hK hP hD hS hA _ _ (kw_self _) (kw_self _).symm rfl rfl rfl rfl hl.1 (Nat.le_of_ble_eq_true rfl) dX4_arrives_43 ⟨Nat.zero_le _, Nat.zero_le _⟩ (fun H locs hP hD hS => ?_)
          have hP : va_P D vwCl (mnW cI am sv rf ln hs (fx4_drops g 959 960 1 y1)) H := hP
          have hD : va_D A (mnW cI am sv rf ln hs (fx4_drops g 959 960 1 y1)) := hD
          generalize eg3004 : fx4_drops g 959 960 1 y1 = g3004 at hR hF hP hD
          replace hR := bnd_e hR
          replace hF := bnd_p hF
          refine lv_aload_n hx hb dX4_arrives_46 rfl (lv_at hl 1 rfl) ?_
          refine va_get (D := D) (ci := 4) (v := .ref (am 1)) (C := RX4) (T := TX4) (N := 8) hx hb hts hinX4 hown hK hP 0 rfl rfl 0 (by decide) q1 (fun _ h9 => h9) rfl dX4_arrives_47 ?_
          refine lv_sipush (v := 1040) hx hb dX4_arrives_50 (by decide) ?_
          refine va_iald hx hb hK hP 1 0 rfl rfl (kin_lit (j := 1040) (n := 1203) (by decide) (by decide)) dX4_arrives_53 ?_
          refine kw_top (v := .int (g3004 1040)) rfl ?_
          refine lv_if_le (tgt := 78) hx hb dX4_arrives_54 (by decide) (fun c3005 => ?_) (fun c3005 => ?_)
          · rw [if_pos c3005] at hR hF
            refine lv_aload_n hx hb dX4_arrives_78 rfl (lv_at hl 1 rfl) ?_
            refine lv_iconst (v := 3) hx hb dX4_arrives_79 (by decide) ?_
            obtain ⟨hs3007, hF⟩ := hF
            refine kcV (ci := 4) (q0 := 0) (As := [.int 3]) (rest := []) E.1 (cx4_alarms E am sv rf ln hs g3004 3 hs3007) hX (cwV 1 hts gX4_arrives_X4_alarms rfl rfl rfl hdX4_alarms ⟨Nat.le_of_ble_eq_true rfl, Nat.le_of_ble_eq_true rfl⟩) hKs hK hP hD hS hA _ _ (kw_self _) (kw_self _).symm rfl rfl rfl rfl hl.1 (Nat.le_of_ble_eq_true rfl) dX4_arrives_80 ⟨Nat.zero_le _, Nat.zero_le _⟩ (fun H locs hP hD hS => ?_)
            have hP : va_P D vwCl (mnW cI am sv rf ln hs (fx4_alarms g3004 3)) H := hP
            have hD : va_D A (mnW cI am sv rf ln hs (fx4_alarms g3004 3)) := hD
            generalize eg3006 : fx4_alarms g3004 3 = g3006 at hR hF hP hD
            replace hR := bnd_e hR
            replace hF := bnd_p hF
            refine lv_goto (tgt := 2) hx hb dX4_arrives_83 (by decide) ?_
            exact ih2 y1 g3006 _ _ ls hR hF hP hD hS (lv_sub hl [0, 1] rfl)
          · rw [if_neg c3005] at hR hF
            refine lv_aload_n hx hb dX4_arrives_57 rfl (lv_at hl 1 rfl) ?_
            refine lv_sipush (v := 1040) hx hb dX4_arrives_58 (by decide) ?_
            refine lv_sipush (v := 1041) hx hb dX4_arrives_61 (by decide) ?_
            refine lv_iconst (v := 1) hx hb dX4_arrives_64 (by decide) ?_
            refine lv_iconst (v := 0) hx hb dX4_arrives_65 (by decide) ?_
            obtain ⟨hs3011, hF⟩ := hF
            refine kcV (ci := 4) (q0 := 0) (As := [.int 1040, .int 1041, .int 1, .int 0]) (rest := []) E.1 (cx4_drops E am sv rf ln hs g3004 1040 1041 1 0 hs3011) hX (cwV 4 hts gX4_arrives_X4_drops rfl rfl rfl hdX4_drops ⟨Nat.le_of_ble_eq_true rfl, Nat.le_of_ble_eq_true rfl⟩) hKs hK hP hD hS hA _ _ (kw_self _) (kw_self _).symm rfl rfl rfl rfl hl.1 (Nat.le_of_ble_eq_true rfl) dX4_arrives_66 ⟨Nat.zero_le _, Nat.zero_le _⟩ (fun H locs hP hD hS => ?_)
            have hP : va_P D vwCl (mnW cI am sv rf ln hs (fx4_drops g3004 1040 1041 1 0)) H := hP
            have hD : va_D A (mnW cI am sv rf ln hs (fx4_drops g3004 1040 1041 1 0)) := hD
            generalize eg3008 : fx4_drops g3004 1040 1041 1 0 = g3008 at hR hF hP hD
            replace hR := bnd_e hR
            replace hF := bnd_p hF
            refine lv_aload_n hx hb dX4_arrives_69 rfl (lv_at hl 1 rfl) ?_
            refine lv_bipush (v := 6) hx hb dX4_arrives_70 (by decide) ?_
            obtain ⟨hs3010, hF⟩ := hF
            refine kcV (ci := 4) (q0 := 0) (As := [.int 6]) (rest := []) E.1 (cx4_counts E am sv rf ln hs g3008 6 hs3010) hX (cwV 1 hts gX4_arrives_X4_counts rfl rfl rfl hdX4_counts ⟨Nat.le_of_ble_eq_true rfl, Nat.le_of_ble_eq_true rfl⟩) hKs hK hP hD hS hA _ _ (kw_self _) (kw_self _).symm rfl rfl rfl rfl hl.1 (Nat.le_of_ble_eq_true rfl) dX4_arrives_72 ⟨Nat.zero_le _, Nat.zero_le _⟩ (fun H locs hP hD hS => ?_)
            have hP : va_P D vwCl (mnW cI am sv rf ln hs (fx4_counts g3008 6)) H := hP
            have hD : va_D A (mnW cI am sv rf ln hs (fx4_counts g3008 6)) := hD
            generalize eg3009 : fx4_counts g3008 6 = g3009 at hR hF hP hD
            replace hR := bnd_e hR
            replace hF := bnd_p hF
            refine lv_goto (tgt := 2) hx hb dX4_arrives_75 (by decide) ?_
            exact ih2 y1 g3009 _ _ ls hR hF hP hD hS (lv_sub hl [0, 1] rfl)
  exact loop2 kfu 0 g _ _ ls hR hF hP hD hS (lv_sub hl [0, 1] rfl)

theorem hdX4_itemAt : yX4_itemAt.cls = RX4 ∧ yX4_itemAt.cls ≠ "java/lang/invoke/MethodHandle" ∧ yX4_itemAt.cls ≠ "java/lang/invoke/VarHandle" ∧ (parseMethodDescriptor yX4_itemAt.desc).map (fun d => d.parameters.length) = some 1 := by decide +kernel
def fx4_itemAt_L14 (g : (Nat → Int32)) : Nat → Int32 → Int32 → Int32 → Int32 → Int32
  | 0, _, _, _, _ => 0
  | n14 + 1, y1, y2, y3, y4 => (if (g 36) ≤ y4 then y2 else (if 0 ≤ ((g (fx4_thing y4 1).toNatClampNeg) - y1) then (if y3 ≤ ((g (fx4_thing y4 1).toNatClampNeg) - y1) then fx4_itemAt_L14 g n14 y1 y2 y3 (y4 + 1) else fx4_itemAt_L14 g n14 y1 y4 ((g (fx4_thing y4 1).toNatClampNeg) - y1) (y4 + 1)) else (if y3 ≤ (-((g (fx4_thing y4 1).toNatClampNeg) - y1)) then fx4_itemAt_L14 g n14 y1 y2 y3 (y4 + 1) else fx4_itemAt_L14 g n14 y1 y4 (-((g (fx4_thing y4 1).toNatClampNeg) - y1)) (y4 + 1))))
def sx4_itemAt_L14 (g : (Nat → Int32)) : Nat → Int32 → Int32 → Int32 → Int32 → Prop
  | 0, _, _, _, _ => False
  | n14 + 1, y1, y2, y3, y4 => (if (g 36) ≤ y4 then True else (vp_in (fx4_thing y4 1) 1203 ∧ (if 0 ≤ ((g (fx4_thing y4 1).toNatClampNeg) - y1) then (if y3 ≤ ((g (fx4_thing y4 1).toNatClampNeg) - y1) then sx4_itemAt_L14 g n14 y1 y2 y3 (y4 + 1) else sx4_itemAt_L14 g n14 y1 y4 ((g (fx4_thing y4 1).toNatClampNeg) - y1) (y4 + 1)) else (if y3 ≤ (-((g (fx4_thing y4 1).toNatClampNeg) - y1)) then sx4_itemAt_L14 g n14 y1 y2 y3 (y4 + 1) else sx4_itemAt_L14 g n14 y1 y4 (-((g (fx4_thing y4 1).toNatClampNeg) - y1)) (y4 + 1)))))
def fx4_itemAt (g : (Nat → Int32)) (x1 : Int32) : Int32 := fx4_itemAt_L14 g kfu x1 (-1) ((g 5) + 1) 0
def sx4_itemAt (g : (Nat → Int32)) (x1 : Int32) : Prop := sx4_itemAt_L14 g kfu x1 (-1) ((g 5) + 1) 0
set_option maxHeartbeats 4000000 in
set_option maxRecDepth 100000 in
theorem cx4_itemAt {l : Launch} {D : va_G} {cI cB cS cJ : ClassId} {K : State → Prop} (E : kE D cI cB cS cJ K) (am : Nat → Nat) (sv rf ln : Int32) (hs : Int64) (g : (Nat → Int32)) (x1 : Int32) (hF : sx4_itemAt g x1) : kI l D K yX4_itemAt wsX4_itemAt 1 21 [.ref (am 0), .int x1] (mnW cI am sv rf ln hs g) (fx4_itemAt g x1) (mnW cI am sv rf ln hs g) := by
  refine kI_of (own := RX4) (cc := cX4_itemAt) (maxL := 6) (tys := kty cI cB cS cJ) (fun U h => (E.2 U h).1) (by decide) rfl rfl (Nat.le_of_ble_eq_true rfl) ?_
  intro p e s m below meth c A ls hx hb hr hml hts hown hlk hKs hK hP hD hA hS hl
  have hl : lv_has ls 6 [(0, .ref (am 0)), (1, .int x1)] := hl
  have hX : CallFix p m c cX4_itemAt 6 s _ wsX4_itemAt RX4 := ⟨hx, hb, hml, hown, hts⟩
  have hinX4 : ∀ w ∈ wsX40, w ∈ wsX4_itemAt := fun w h => List.mem_cons_of_mem _ (List.mem_append_right _ h)
  have q1 := hts (.fieldLink RX4 7 "LabelStationModel" "now" "[I") (List.mem_of_getElem? (i := 1) rfl)
  generalize hR : fx4_itemAt g x1 = R
  rw [fx4_itemAt] at hR
  rw [sx4_itemAt] at hF
  refine lv_iconst (v := (-1)) hx hb dX4_itemAt_0 (by decide) ?_
  refine lv_istore_n (lv' := [(2, .int (-1)), (0, .ref (am 0)), (1, .int x1)]) hx hb dX4_itemAt_1 rfl hl (by decide) rfl (fun ls hl => ?_)
  refine lv_aload_n hx hb dX4_itemAt_2 rfl (lv_at hl 1 rfl) ?_
  refine va_get (D := D) (ci := 4) (v := .ref (am 1)) (C := RX4) (T := TX4) (N := 8) hx hb hts hinX4 hown hK hP 0 rfl rfl 0 (by decide) q1 (fun _ h9 => h9) rfl dX4_itemAt_3 ?_
  refine lv_iconst (v := 5) hx hb dX4_itemAt_6 (by decide) ?_
  refine va_iald hx hb hK hP 1 0 rfl rfl (kin_lit (j := 5) (n := 1203) (by decide) (by decide)) dX4_itemAt_7 ?_
  refine kw_top (v := .int (g 5)) rfl ?_
  refine lv_iconst (v := 1) hx hb dX4_itemAt_8 (by decide) ?_
  refine lv_iadd hx hb dX4_itemAt_9 ?_
  refine lv_istore_n (lv' := [(3, .int ((g 5) + 1)), (2, .int (-1)), (0, .ref (am 0)), (1, .int x1)]) hx hb dX4_itemAt_10 rfl hl (by decide) rfl (fun ls hl => ?_)
  refine lv_iconst (v := 0) hx hb dX4_itemAt_11 (by decide) ?_
  refine lv_istore (lv' := [(4, .int 0), (3, .int ((g 5) + 1)), (2, .int (-1)), (0, .ref (am 0)), (1, .int x1)]) hx hb dX4_itemAt_12 hl (by decide) rfl (fun ls hl => ?_)
  have loop14 : ∀ (n14 : Nat) (y1 : Int32) (y2 : Int32) (y3 : Int32) (y4 : Int32) (H : Heap) (locs : List Loc) (ls : Array Slot), fx4_itemAt_L14 g n14 y1 y2 y3 y4 = R → sx4_itemAt_L14 g n14 y1 y2 y3 y4 → va_P D vwCl (mnW cI am sv rf ln hs g) H → va_D A (mnW cI am sv rf ln hs g) → va_S A s.heap H locs → lv_has ls 6 [(1, .int y1), (2, .int y2), (3, .int y3), (4, .int y4), (0, .ref (am 0))] → W p l e (kRm 1 21) s m ([.ref (am 0), .int x1] : List Value).toArray below meth c H locs 0 0 (kQI D below R (mnW cI am sv rf ln hs g) A ([.ref (am 0), .int x1] : List Value).toArray s) (F0 m 14 ls []) := by
    intro n14
    induction n14 with
    | zero => intro y1 y2 y3 y4 H locs ls hR hF; exact hF.elim
    | succ n14 ih14 =>
      intro y1 y2 y3 y4 H locs ls hR hF hP hD hS hl
      rw [fx4_itemAt_L14] at hR
      rw [sx4_itemAt_L14] at hF
      refine lv_iload hx hb dX4_itemAt_14 (lv_at hl 3 rfl) ?_
      refine lv_aload_n hx hb dX4_itemAt_16 rfl (lv_at hl 4 rfl) ?_
      refine va_get (D := D) (ci := 4) (v := .ref (am 1)) (C := RX4) (T := TX4) (N := 8) hx hb hts hinX4 hown hK hP 0 rfl rfl 0 (by decide) q1 (fun _ h9 => h9) rfl dX4_itemAt_17 ?_
      refine lv_bipush (v := 36) hx hb dX4_itemAt_20 (by decide) ?_
      refine va_iald hx hb hK hP 1 0 rfl rfl (kin_lit (j := 36) (n := 1203) (by decide) (by decide)) dX4_itemAt_22 ?_
      refine kw_top (v := .int (g 36)) rfl ?_
      refine lv_icmp_ge (tgt := 74) hx hb dX4_itemAt_23 (by decide) (fun c15001 => ?_) (fun c15001 => ?_)
      · rw [if_pos c15001] at hR hF
        refine lv_iload_n hx hb dX4_itemAt_74 rfl (lv_at hl 1 rfl) ?_
        subst hR
        exact krI hx hb hr hlk hP hD hS dX4_itemAt_75 rfl rfl
      · rw [if_neg c15001] at hR hF
        refine lv_aload_n hx hb dX4_itemAt_26 rfl (lv_at hl 4 rfl) ?_
        refine va_get (D := D) (ci := 4) (v := .ref (am 1)) (C := RX4) (T := TX4) (N := 8) hx hb hts hinX4 hown hK hP 0 rfl rfl 0 (by decide) q1 (fun _ h9 => h9) rfl dX4_itemAt_27 ?_
        refine lv_iload hx hb dX4_itemAt_30 (lv_at hl 3 rfl) ?_
        refine lv_iconst (v := 1) hx hb dX4_itemAt_32 (by decide) ?_
        refine kcsI (As := [.int y4, .int 1]) (rest := [.ref (am 1)]) E.1 (cx4_thing E y4 1) hX (va_cwS 2 hts gX4_itemAt_X4_thing rfl rfl rfl hdX4_thing.2 ⟨Nat.le_of_ble_eq_true rfl, Nat.le_of_ble_eq_true rfl⟩) hKs hP hD hS hA _ _ (kw_nil _) (kw_nil _).symm rfl rfl hl.1 (Nat.le_of_ble_eq_true rfl) dX4_itemAt_33 ⟨Nat.zero_le _, Nat.zero_le _⟩ (fun H locs hP hD hS => ?_)
        obtain ⟨hi15002, hF⟩ := hF
        refine va_iald hx hb hK hP 1 0 rfl rfl hi15002 dX4_itemAt_36 ?_
        refine lv_iload_n hx hb dX4_itemAt_37 rfl (lv_at hl 0 rfl) ?_
        refine lv_isub hx hb dX4_itemAt_38 ?_
        refine lv_istore (lv' := [(5, .int ((g (fx4_thing y4 1).toNatClampNeg) - y1)), (1, .int y1), (2, .int y2), (3, .int y3), (4, .int y4), (0, .ref (am 0))]) hx hb dX4_itemAt_39 hl (by decide) rfl (fun ls hl => ?_)
        refine lv_iload hx hb dX4_itemAt_41 (lv_at hl 0 rfl) ?_
        refine lv_if_ge (tgt := 52) hx hb dX4_itemAt_43 (by decide) (fun c15003 => ?_) (fun c15003 => ?_)
        · rw [if_pos c15003] at hR hF
          refine lv_iload hx hb dX4_itemAt_52 (lv_at hl 0 rfl) ?_
          refine lv_istore (lv' := [(5, .int ((g (fx4_thing y4 1).toNatClampNeg) - y1)), (1, .int y1), (2, .int y2), (3, .int y3), (4, .int y4), (0, .ref (am 0))]) hx hb dX4_itemAt_54 hl (by decide) rfl (fun ls hl => ?_)
          refine lv_iload hx hb dX4_itemAt_56 (lv_at hl 0 rfl) ?_
          refine lv_iload_n hx hb dX4_itemAt_58 rfl (lv_at hl 3 rfl) ?_
          refine lv_icmp_ge (tgt := 68) hx hb dX4_itemAt_59 (by decide) (fun c15004 => ?_) (fun c15004 => ?_)
          · rw [if_pos c15004] at hR hF
            refine lv_iinc (v := y4 + 1) (lv' := [(4, .int (y4 + 1)), (5, .int ((g (fx4_thing y4 1).toNatClampNeg) - y1)), (1, .int y1), (2, .int y2), (3, .int y3), (0, .ref (am 0))]) hx hb dX4_itemAt_68 hl (k := 4) rfl rfl (by decide) rfl (fun ls hl => ?_)
            refine lv_goto (tgt := 14) hx hb dX4_itemAt_71 (by decide) ?_
            exact ih14 y1 y2 y3 (y4 + 1) _ _ ls hR hF hP hD hS (lv_sub hl [2, 3, 4, 0, 5] rfl)
          · rw [if_neg c15004] at hR hF
            refine lv_iload hx hb dX4_itemAt_62 (lv_at hl 0 rfl) ?_
            refine lv_istore_n (lv' := [(3, .int ((g (fx4_thing y4 1).toNatClampNeg) - y1)), (5, .int ((g (fx4_thing y4 1).toNatClampNeg) - y1)), (1, .int y1), (2, .int y2), (4, .int y4), (0, .ref (am 0))]) hx hb dX4_itemAt_64 rfl hl (by decide) rfl (fun ls hl => ?_)
            refine lv_iload hx hb dX4_itemAt_65 (lv_at hl 4 rfl) ?_
            refine lv_istore_n (lv' := [(2, .int y4), (3, .int ((g (fx4_thing y4 1).toNatClampNeg) - y1)), (5, .int ((g (fx4_thing y4 1).toNatClampNeg) - y1)), (1, .int y1), (4, .int y4), (0, .ref (am 0))]) hx hb dX4_itemAt_67 rfl hl (by decide) rfl (fun ls hl => ?_)
            refine lv_iinc (v := y4 + 1) (lv' := [(4, .int (y4 + 1)), (2, .int y4), (3, .int ((g (fx4_thing y4 1).toNatClampNeg) - y1)), (5, .int ((g (fx4_thing y4 1).toNatClampNeg) - y1)), (1, .int y1), (0, .ref (am 0))]) hx hb dX4_itemAt_68 hl (k := 4) rfl rfl (by decide) rfl (fun ls hl => ?_)
            refine lv_goto (tgt := 14) hx hb dX4_itemAt_71 (by decide) ?_
            exact ih14 y1 y4 ((g (fx4_thing y4 1).toNatClampNeg) - y1) (y4 + 1) _ _ ls hR hF hP hD hS (lv_sub hl [4, 1, 2, 0, 5] rfl)
        · rw [if_neg c15003] at hR hF
          refine lv_iload hx hb dX4_itemAt_46 (lv_at hl 0 rfl) ?_
          refine lv_ineg hx hb dX4_itemAt_48 ?_
          refine lv_goto (tgt := 54) hx hb dX4_itemAt_49 (by decide) ?_
          refine lv_istore (lv' := [(5, .int (-((g (fx4_thing y4 1).toNatClampNeg) - y1))), (1, .int y1), (2, .int y2), (3, .int y3), (4, .int y4), (0, .ref (am 0))]) hx hb dX4_itemAt_54 hl (by decide) rfl (fun ls hl => ?_)
          refine lv_iload hx hb dX4_itemAt_56 (lv_at hl 0 rfl) ?_
          refine lv_iload_n hx hb dX4_itemAt_58 rfl (lv_at hl 3 rfl) ?_
          refine lv_icmp_ge (tgt := 68) hx hb dX4_itemAt_59 (by decide) (fun c15005 => ?_) (fun c15005 => ?_)
          · rw [if_pos c15005] at hR hF
            refine lv_iinc (v := y4 + 1) (lv' := [(4, .int (y4 + 1)), (5, .int (-((g (fx4_thing y4 1).toNatClampNeg) - y1))), (1, .int y1), (2, .int y2), (3, .int y3), (0, .ref (am 0))]) hx hb dX4_itemAt_68 hl (k := 4) rfl rfl (by decide) rfl (fun ls hl => ?_)
            refine lv_goto (tgt := 14) hx hb dX4_itemAt_71 (by decide) ?_
            exact ih14 y1 y2 y3 (y4 + 1) _ _ ls hR hF hP hD hS (lv_sub hl [2, 3, 4, 0, 5] rfl)
          · rw [if_neg c15005] at hR hF
            refine lv_iload hx hb dX4_itemAt_62 (lv_at hl 0 rfl) ?_
            refine lv_istore_n (lv' := [(3, .int (-((g (fx4_thing y4 1).toNatClampNeg) - y1))), (5, .int (-((g (fx4_thing y4 1).toNatClampNeg) - y1))), (1, .int y1), (2, .int y2), (4, .int y4), (0, .ref (am 0))]) hx hb dX4_itemAt_64 rfl hl (by decide) rfl (fun ls hl => ?_)
            refine lv_iload hx hb dX4_itemAt_65 (lv_at hl 4 rfl) ?_
            refine lv_istore_n (lv' := [(2, .int y4), (3, .int (-((g (fx4_thing y4 1).toNatClampNeg) - y1))), (5, .int (-((g (fx4_thing y4 1).toNatClampNeg) - y1))), (1, .int y1), (4, .int y4), (0, .ref (am 0))]) hx hb dX4_itemAt_67 rfl hl (by decide) rfl (fun ls hl => ?_)
            refine lv_iinc (v := y4 + 1) (lv' := [(4, .int (y4 + 1)), (2, .int y4), (3, .int (-((g (fx4_thing y4 1).toNatClampNeg) - y1))), (5, .int (-((g (fx4_thing y4 1).toNatClampNeg) - y1))), (1, .int y1), (0, .ref (am 0))]) hx hb dX4_itemAt_68 hl (k := 4) rfl rfl (by decide) rfl (fun ls hl => ?_)
            refine lv_goto (tgt := 14) hx hb dX4_itemAt_71 (by decide) ?_
            exact ih14 y1 y4 (-((g (fx4_thing y4 1).toNatClampNeg) - y1)) (y4 + 1) _ _ ls hR hF hP hD hS (lv_sub hl [4, 1, 2, 0, 5] rfl)
  exact loop14 kfu x1 (-1) ((g 5) + 1) 0 _ _ ls hR hF hP hD hS (lv_sub hl [4, 2, 1, 0, 3] rfl)

theorem hdX4_labels : yX4_labels.cls = RX4 ∧ yX4_labels.cls ≠ "java/lang/invoke/MethodHandle" ∧ yX4_labels.cls ≠ "java/lang/invoke/VarHandle" ∧ (parseMethodDescriptor yX4_labels.desc).map (fun d => d.parameters.length) = some 1 := by decide +kernel
def fx4_labels (g : (Nat → Int32)) (x1 : Int32) : (Nat → Int32) := (if (g 6) = 0 then (bnd (upd g (fx4_entry x1 3).toNatClampNeg 1) (fun g3 => g3)) else (if (g 13) = 1 then (bnd (upd g (fx4_entry x1 3).toNatClampNeg 1) (fun g6 => g6)) else (bnd (upd g 6 ((g 6) - 1)) (fun g7 => (bnd (fx4_itemAt g7 (g7 7)) (fun v8 => (if v8 = (-1) then (bnd (fx4_counts g7 5) (fun g10 => g10)) else (bnd (upd g7 (fx4_thing v8 3).toNatClampNeg 1) (fun g13 => g13)))))))))
def sx4_labels (g : (Nat → Int32)) (x1 : Int32) : Prop := (if (g 6) = 0 then vp_in (fx4_entry x1 3) 1203 else (if (g 13) = 1 then vp_in (fx4_entry x1 3) 1203 else (bnd (upd g 6 ((g 6) - 1)) (fun g7 => (sx4_itemAt g7 (g7 7) ∧ (bnd (fx4_itemAt g7 (g7 7)) (fun v8 => (if v8 = (-1) then sx4_counts g7 5 else vp_in (fx4_thing v8 3) 1203))))))))
set_option maxHeartbeats 4000000 in
set_option maxRecDepth 100000 in
theorem cx4_labels {l : Launch} {D : va_G} {cI cB cS cJ : ClassId} {K : State → Prop} (E : kE D cI cB cS cJ K) (am : Nat → Nat) (sv rf ln : Int32) (hs : Int64) (g : (Nat → Int32)) (x1 : Int32) (hF : sx4_labels g x1) : kV l D K yX4_labels wsX4_labels 2 46 [.ref (am 0), .int x1] (mnW cI am sv rf ln hs g)  (mnW cI am sv rf ln hs (fx4_labels g x1)) := by
  refine kV_of (own := RX4) (cc := cX4_labels) (maxL := 3) (tys := kty cI cB cS cJ) (fun U h => (E.2 U h).1) (by decide) rfl rfl (Nat.le_of_ble_eq_true rfl) ?_
  intro p e s m below meth c A ls hx hb hr hml hts hown hlk hKs hK hP hD hA hS hl
  have hl : lv_has ls 3 [(0, .ref (am 0)), (1, .int x1)] := hl
  have hX : CallFix p m c cX4_labels 3 s _ wsX4_labels RX4 := ⟨hx, hb, hml, hown, hts⟩
  have hinX4 : ∀ w ∈ wsX40, w ∈ wsX4_labels := fun w h => List.mem_cons_of_mem _ (List.mem_append_right _ h)
  have q1 := hts (.fieldLink RX4 7 "LabelStationModel" "now" "[I") (List.mem_of_getElem? (i := 1) rfl)
  generalize hR : fx4_labels g x1 = R
  rw [fx4_labels] at hR
  rw [sx4_labels] at hF
  refine lv_aload_n hx hb dX4_labels_0 rfl (lv_at hl 0 rfl) ?_
  refine va_get (D := D) (ci := 4) (v := .ref (am 1)) (C := RX4) (T := TX4) (N := 8) hx hb hts hinX4 hown hK hP 0 rfl rfl 0 (by decide) q1 (fun _ h9 => h9) rfl dX4_labels_1 ?_
  refine lv_bipush (v := 6) hx hb dX4_labels_4 (by decide) ?_
  refine va_iald hx hb hK hP 1 0 rfl rfl (kin_lit (j := 6) (n := 1203) (by decide) (by decide)) dX4_labels_6 ?_
  refine kw_top (v := .int (g 6)) rfl ?_
  refine lv_if_eq (tgt := 21) hx hb dX4_labels_7 (by decide) (fun c1 => ?_) (fun c1 => ?_)
  · rw [if_pos c1] at hR hF
    refine lv_aload_n hx hb dX4_labels_21 rfl (lv_at hl 0 rfl) ?_
    refine va_get (D := D) (ci := 4) (v := .ref (am 1)) (C := RX4) (T := TX4) (N := 8) hx hb hts hinX4 hown hK hP 0 rfl rfl 0 (by decide) q1 (fun _ h9 => h9) rfl dX4_labels_22 ?_
    refine lv_iload_n hx hb dX4_labels_25 rfl (lv_at hl 1 rfl) ?_
    refine lv_iconst (v := 3) hx hb dX4_labels_26 (by decide) ?_
    refine kcsI (As := [.int x1, .int 3]) (rest := [.ref (am 1)]) E.1 (cx4_entry E x1 3) hX (va_cwS 2 hts gX4_labels_X4_entry rfl rfl rfl hdX4_entry.2 ⟨Nat.le_of_ble_eq_true rfl, Nat.le_of_ble_eq_true rfl⟩) hKs hP hD hS hA _ _ (kw_nil _) (kw_nil _).symm rfl rfl hl.1 (Nat.le_of_ble_eq_true rfl) dX4_labels_27 ⟨Nat.zero_le _, Nat.zero_le _⟩ (fun H locs hP hD hS => ?_)
    refine lv_iconst (v := 1) hx hb dX4_labels_30 (by decide) ?_
    have hi2 := hF
    refine va_iast hx hb hK hP hD hS 1 0 rfl rfl hi2 dX4_labels_31 (fun H locs hP hD hS => ?_)
    have hP : va_P D vwCl (mnW cI am sv rf ln hs (upd g (fx4_entry x1 3).toNatClampNeg 1)) H := hP
    have hD : va_D A (mnW cI am sv rf ln hs (upd g (fx4_entry x1 3).toNatClampNeg 1)) := hD
    generalize eg3 : upd g (fx4_entry x1 3).toNatClampNeg 1 = g3 at hR hP hD
    replace hR := bnd_e hR
    subst hR
    exact krV hx hb hr hlk hP hD hS dX4_labels_32 rfl
  · rw [if_neg c1] at hR hF
    refine lv_aload_n hx hb dX4_labels_10 rfl (lv_at hl 0 rfl) ?_
    refine va_get (D := D) (ci := 4) (v := .ref (am 1)) (C := RX4) (T := TX4) (N := 8) hx hb hts hinX4 hown hK hP 0 rfl rfl 0 (by decide) q1 (fun _ h9 => h9) rfl dX4_labels_11 ?_
    refine lv_bipush (v := 13) hx hb dX4_labels_14 (by decide) ?_
    refine va_iald hx hb hK hP 1 0 rfl rfl (kin_lit (j := 13) (n := 1203) (by decide) (by decide)) dX4_labels_16 ?_
    refine kw_top (v := .int (g 13)) rfl ?_
    refine lv_iconst (v := 1) hx hb dX4_labels_17 (by decide) ?_
    refine lv_icmp_ne (tgt := 33) hx hb dX4_labels_18 (by decide) (fun c4 => ?_) (fun c4 => ?_)
    · rw [if_neg c4] at hR hF
      refine lv_aload_n hx hb dX4_labels_33 rfl (lv_at hl 0 rfl) ?_
      refine va_get (D := D) (ci := 4) (v := .ref (am 1)) (C := RX4) (T := TX4) (N := 8) hx hb hts hinX4 hown hK hP 0 rfl rfl 0 (by decide) q1 (fun _ h9 => h9) rfl dX4_labels_34 ?_
      refine lv_bipush (v := 6) hx hb dX4_labels_37 (by decide) ?_
      refine lv_dup2_11 hx hb dX4_labels_39 rfl rfl ?_
      refine va_iald hx hb hK hP 1 0 rfl rfl (kin_lit (j := 6) (n := 1203) (by decide) (by decide)) dX4_labels_40 ?_
      refine kw_top (v := .int (g 6)) rfl ?_
      refine lv_iconst (v := 1) hx hb dX4_labels_41 (by decide) ?_
      refine lv_isub hx hb dX4_labels_42 ?_
      refine va_iast hx hb hK hP hD hS 1 0 rfl rfl (kin_lit (j := 6) (n := 1203) (by decide) (by decide)) dX4_labels_43 (fun H locs hP hD hS => ?_)
      have hP : va_P D vwCl (mnW cI am sv rf ln hs (upd g 6 ((g 6) - 1))) H := hP
      have hD : va_D A (mnW cI am sv rf ln hs (upd g 6 ((g 6) - 1))) := hD
      generalize eg7 : upd g 6 ((g 6) - 1) = g7 at hR hP hD hF
      replace hR := bnd_e hR
      replace hF := bnd_p hF
      refine lv_aload_n hx hb dX4_labels_44 rfl (lv_at hl 0 rfl) ?_
      refine lv_aload_n hx hb dX4_labels_45 rfl (lv_at hl 0 rfl) ?_
      refine va_get (D := D) (ci := 4) (v := .ref (am 1)) (C := RX4) (T := TX4) (N := 8) hx hb hts hinX4 hown hK hP 0 rfl rfl 0 (by decide) q1 (fun _ h9 => h9) rfl dX4_labels_46 ?_
      refine lv_bipush (v := 7) hx hb dX4_labels_49 (by decide) ?_
      refine va_iald hx hb hK hP 1 0 rfl rfl (kin_lit (j := 7) (n := 1203) (by decide) (by decide)) dX4_labels_51 ?_
      refine kw_top (v := .int (g7 7)) rfl ?_
      obtain ⟨hs14, hF⟩ := hF
      refine kcI (ci := 4) (q0 := 0) (As := [.int (g7 7)]) (rest := []) E.1 (cx4_itemAt E am sv rf ln hs g7 (g7 7) hs14) hX (cwV 1 hts gX4_labels_X4_itemAt rfl rfl rfl hdX4_itemAt ⟨Nat.le_of_ble_eq_true rfl, Nat.le_of_ble_eq_true rfl⟩) hKs hK hP hD hS hA _ _ (kw_self _) (kw_self _).symm rfl rfl rfl rfl hl.1 (Nat.le_of_ble_eq_true rfl) dX4_labels_52 ⟨Nat.zero_le _, Nat.zero_le _⟩ (fun H locs hP hD hS => ?_)
      generalize ev8 : fx4_itemAt g7 (g7 7) = v8 at hR hF ⊢
      replace hR := bnd_e hR
      replace hF := bnd_p hF
      refine lv_istore_n (lv' := [(2, .int v8), (0, .ref (am 0)), (1, .int x1)]) hx hb dX4_labels_55 rfl hl (by decide) rfl (fun ls hl => ?_)
      refine lv_iload_n hx hb dX4_labels_56 rfl (lv_at hl 0 rfl) ?_
      refine lv_iconst (v := (-1)) hx hb dX4_labels_57 (by decide) ?_
      refine lv_icmp_ne (tgt := 69) hx hb dX4_labels_58 (by decide) (fun c9 => ?_) (fun c9 => ?_)
      · rw [if_neg c9] at hR hF
        refine lv_aload_n hx hb dX4_labels_69 rfl (lv_at hl 1 rfl) ?_
        refine va_get (D := D) (ci := 4) (v := .ref (am 1)) (C := RX4) (T := TX4) (N := 8) hx hb hts hinX4 hown hK hP 0 rfl rfl 0 (by decide) q1 (fun _ h9 => h9) rfl dX4_labels_70 ?_
        refine lv_iload_n hx hb dX4_labels_73 rfl (lv_at hl 0 rfl) ?_
        refine lv_iconst (v := 3) hx hb dX4_labels_74 (by decide) ?_
        refine kcsI (As := [.int v8, .int 3]) (rest := [.ref (am 1)]) E.1 (cx4_thing E v8 3) hX (va_cwS 2 hts gX4_labels_X4_thing rfl rfl rfl hdX4_thing.2 ⟨Nat.le_of_ble_eq_true rfl, Nat.le_of_ble_eq_true rfl⟩) hKs hP hD hS hA _ _ (kw_nil _) (kw_nil _).symm rfl rfl hl.1 (Nat.le_of_ble_eq_true rfl) dX4_labels_75 ⟨Nat.zero_le _, Nat.zero_le _⟩ (fun H locs hP hD hS => ?_)
        refine lv_iconst (v := 1) hx hb dX4_labels_78 (by decide) ?_
        have hi12 := hF
        refine va_iast hx hb hK hP hD hS 1 0 rfl rfl hi12 dX4_labels_79 (fun H locs hP hD hS => ?_)
        have hP : va_P D vwCl (mnW cI am sv rf ln hs (upd g7 (fx4_thing v8 3).toNatClampNeg 1)) H := hP
        have hD : va_D A (mnW cI am sv rf ln hs (upd g7 (fx4_thing v8 3).toNatClampNeg 1)) := hD
        generalize eg13 : upd g7 (fx4_thing v8 3).toNatClampNeg 1 = g13 at hR hP hD
        replace hR := bnd_e hR
        subst hR
        exact krV hx hb hr hlk hP hD hS dX4_labels_80 rfl
      · rw [if_pos c9] at hR hF
        refine lv_aload_n hx hb dX4_labels_61 rfl (lv_at hl 1 rfl) ?_
        refine lv_iconst (v := 5) hx hb dX4_labels_62 (by decide) ?_
        have hs11 := hF
        refine kcV (ci := 4) (q0 := 0) (As := [.int 5]) (rest := []) E.1 (cx4_counts E am sv rf ln hs g7 5 hs11) hX (cwV 1 hts gX4_labels_X4_counts rfl rfl rfl hdX4_counts ⟨Nat.le_of_ble_eq_true rfl, Nat.le_of_ble_eq_true rfl⟩) hKs hK hP hD hS hA _ _ (kw_self _) (kw_self _).symm rfl rfl rfl rfl hl.1 (Nat.le_of_ble_eq_true rfl) dX4_labels_63 ⟨Nat.zero_le _, Nat.zero_le _⟩ (fun H locs hP hD hS => ?_)
        have hP : va_P D vwCl (mnW cI am sv rf ln hs (fx4_counts g7 5)) H := hP
        have hD : va_D A (mnW cI am sv rf ln hs (fx4_counts g7 5)) := hD
        generalize eg10 : fx4_counts g7 5 = g10 at hR hP hD
        replace hR := bnd_e hR
        refine lv_goto (tgt := 80) hx hb dX4_labels_66 (by decide) ?_
        subst hR
        exact krV hx hb hr hlk hP hD hS dX4_labels_80 rfl
    · rw [if_pos c4] at hR hF
      refine lv_aload_n hx hb dX4_labels_21 rfl (lv_at hl 0 rfl) ?_
      refine va_get (D := D) (ci := 4) (v := .ref (am 1)) (C := RX4) (T := TX4) (N := 8) hx hb hts hinX4 hown hK hP 0 rfl rfl 0 (by decide) q1 (fun _ h9 => h9) rfl dX4_labels_22 ?_
      refine lv_iload_n hx hb dX4_labels_25 rfl (lv_at hl 1 rfl) ?_
      refine lv_iconst (v := 3) hx hb dX4_labels_26 (by decide) ?_
      refine kcsI (As := [.int x1, .int 3]) (rest := [.ref (am 1)]) E.1 (cx4_entry E x1 3) hX (va_cwS 2 hts gX4_labels_X4_entry rfl rfl rfl hdX4_entry.2 ⟨Nat.le_of_ble_eq_true rfl, Nat.le_of_ble_eq_true rfl⟩) hKs hP hD hS hA _ _ (kw_nil _) (kw_nil _).symm rfl rfl hl.1 (Nat.le_of_ble_eq_true rfl) dX4_labels_27 ⟨Nat.zero_le _, Nat.zero_le _⟩ (fun H locs hP hD hS => ?_)
      refine lv_iconst (v := 1) hx hb dX4_labels_30 (by decide) ?_
      have hi5 := hF
      refine va_iast hx hb hK hP hD hS 1 0 rfl rfl hi5 dX4_labels_31 (fun H locs hP hD hS => ?_)
      have hP : va_P D vwCl (mnW cI am sv rf ln hs (upd g (fx4_entry x1 3).toNatClampNeg 1)) H := hP
      have hD : va_D A (mnW cI am sv rf ln hs (upd g (fx4_entry x1 3).toNatClampNeg 1)) := hD
      generalize eg6 : upd g (fx4_entry x1 3).toNatClampNeg 1 = g6 at hR hP hD
      replace hR := bnd_e hR
      subst hR
      exact krV hx hb hr hlk hP hD hS dX4_labels_32 rfl

theorem hdX4_looks : yX4_looks.cls = RX4 ∧ yX4_looks.cls ≠ "java/lang/invoke/MethodHandle" ∧ yX4_looks.cls ≠ "java/lang/invoke/VarHandle" ∧ (parseMethodDescriptor yX4_looks.desc).map (fun d => d.parameters.length) = some 2 := by decide +kernel
def fx4_looks (g : (Nat → Int32)) (x1 : Int32) (x2 : Int32) : (Nat → Int32) := (if x2 = 1 then (if (g (fx4_entry x1 2).toNatClampNeg) = 3 then (bnd (fx4_itemAt g (g (8 + x2).toNatClampNeg)) (fun v5 => (if v5 = (-1) then (bnd (upd g (479 + (4 * (g 478))).toNatClampNeg (g (fx4_entry x1 0).toNatClampNeg)) (fun g9 => (bnd (upd g9 ((479 + (4 * (g 478))) + 1).toNatClampNeg x2) (fun g11 => (bnd (upd g11 ((479 + (4 * (g 478))) + 2).toNatClampNeg 2) (fun g13 => (bnd (upd g13 ((479 + (4 * (g 478))) + 3).toNatClampNeg ((g13 14) + (g13 1))) (fun g15 => (bnd (upd g15 478 ((g15 478) + 1)) (fun g16 => g16)))))))))) else (if (g (fx4_thing v5 3).toNatClampNeg) = 1 then (if (g (fx4_thing v5 2).toNatClampNeg) = 0 then (bnd (upd g (479 + (4 * (g 478))).toNatClampNeg (g (fx4_entry x1 0).toNatClampNeg)) (fun g23 => (bnd (upd g23 ((479 + (4 * (g 478))) + 1).toNatClampNeg x2) (fun g25 => (bnd (upd g25 ((479 + (4 * (g 478))) + 2).toNatClampNeg 1) (fun g27 => (bnd (upd g27 ((479 + (4 * (g 478))) + 3).toNatClampNeg ((g27 14) + (g27 1))) (fun g29 => (bnd (upd g29 478 ((g29 478) + 1)) (fun g30 => g30)))))))))) else (if (g (fx4_thing v5 2).toNatClampNeg) = 1 then (bnd (upd g (479 + (4 * (g 478))).toNatClampNeg (g (fx4_entry x1 0).toNatClampNeg)) (fun g34 => (bnd (upd g34 ((479 + (4 * (g 478))) + 1).toNatClampNeg x2) (fun g36 => (bnd (upd g36 ((479 + (4 * (g 478))) + 2).toNatClampNeg 2) (fun g38 => (bnd (upd g38 ((479 + (4 * (g 478))) + 3).toNatClampNeg ((g38 14) + (g38 1))) (fun g40 => (bnd (upd g40 478 ((g40 478) + 1)) (fun g41 => g41)))))))))) else (if (g (fx4_thing v5 2).toNatClampNeg) = 2 then (bnd (upd g (479 + (4 * (g 478))).toNatClampNeg (g (fx4_entry x1 0).toNatClampNeg)) (fun g45 => (bnd (upd g45 ((479 + (4 * (g 478))) + 1).toNatClampNeg x2) (fun g47 => (bnd (upd g47 ((479 + (4 * (g 478))) + 2).toNatClampNeg 1) (fun g49 => (bnd (upd g49 ((479 + (4 * (g 478))) + 3).toNatClampNeg ((g49 14) + (g49 1))) (fun g51 => (bnd (upd g51 478 ((g51 478) + 1)) (fun g52 => g52)))))))))) else (bnd (upd g (479 + (4 * (g 478))).toNatClampNeg (g (fx4_entry x1 0).toNatClampNeg)) (fun g55 => (bnd (upd g55 ((479 + (4 * (g 478))) + 1).toNatClampNeg x2) (fun g57 => (bnd (upd g57 ((479 + (4 * (g 478))) + 2).toNatClampNeg 3) (fun g59 => (bnd (upd g59 ((479 + (4 * (g 478))) + 3).toNatClampNeg ((g59 14) + (g59 1))) (fun g61 => (bnd (upd g61 478 ((g61 478) + 1)) (fun g62 => g62))))))))))))) else (bnd (upd g (479 + (4 * (g 478))).toNatClampNeg (g (fx4_entry x1 0).toNatClampNeg)) (fun g65 => (bnd (upd g65 ((479 + (4 * (g 478))) + 1).toNatClampNeg x2) (fun g67 => (bnd (upd g67 ((479 + (4 * (g 478))) + 2).toNatClampNeg 2) (fun g69 => (bnd (upd g69 ((479 + (4 * (g 478))) + 3).toNatClampNeg ((g69 14) + (g69 1))) (fun g71 => (bnd (upd g71 478 ((g71 478) + 1)) (fun g72 => g72)))))))))))))) else g) else (bnd (fx4_itemAt g (g (8 + x2).toNatClampNeg)) (fun v75 => (if v75 = (-1) then (bnd (upd g (479 + (4 * (g 478))).toNatClampNeg (g (fx4_entry x1 0).toNatClampNeg)) (fun g79 => (bnd (upd g79 ((479 + (4 * (g 478))) + 1).toNatClampNeg x2) (fun g81 => (bnd (upd g81 ((479 + (4 * (g 478))) + 2).toNatClampNeg 2) (fun g83 => (bnd (upd g83 ((479 + (4 * (g 478))) + 3).toNatClampNeg ((g83 14) + (g83 1))) (fun g85 => (bnd (upd g85 478 ((g85 478) + 1)) (fun g86 => g86)))))))))) else (if (g (fx4_thing v75 3).toNatClampNeg) = 1 then (if (g (fx4_thing v75 2).toNatClampNeg) = 0 then (bnd (upd g (479 + (4 * (g 478))).toNatClampNeg (g (fx4_entry x1 0).toNatClampNeg)) (fun g93 => (bnd (upd g93 ((479 + (4 * (g 478))) + 1).toNatClampNeg x2) (fun g95 => (bnd (upd g95 ((479 + (4 * (g 478))) + 2).toNatClampNeg 1) (fun g97 => (bnd (upd g97 ((479 + (4 * (g 478))) + 3).toNatClampNeg ((g97 14) + (g97 1))) (fun g99 => (bnd (upd g99 478 ((g99 478) + 1)) (fun g100 => g100)))))))))) else (if (g (fx4_thing v75 2).toNatClampNeg) = 1 then (bnd (upd g (479 + (4 * (g 478))).toNatClampNeg (g (fx4_entry x1 0).toNatClampNeg)) (fun g104 => (bnd (upd g104 ((479 + (4 * (g 478))) + 1).toNatClampNeg x2) (fun g106 => (bnd (upd g106 ((479 + (4 * (g 478))) + 2).toNatClampNeg 2) (fun g108 => (bnd (upd g108 ((479 + (4 * (g 478))) + 3).toNatClampNeg ((g108 14) + (g108 1))) (fun g110 => (bnd (upd g110 478 ((g110 478) + 1)) (fun g111 => g111)))))))))) else (if (g (fx4_thing v75 2).toNatClampNeg) = 2 then (bnd (upd g (479 + (4 * (g 478))).toNatClampNeg (g (fx4_entry x1 0).toNatClampNeg)) (fun g115 => (bnd (upd g115 ((479 + (4 * (g 478))) + 1).toNatClampNeg x2) (fun g117 => (bnd (upd g117 ((479 + (4 * (g 478))) + 2).toNatClampNeg 3) (fun g119 => (bnd (upd g119 ((479 + (4 * (g 478))) + 3).toNatClampNeg ((g119 14) + (g119 1))) (fun g121 => (bnd (upd g121 478 ((g121 478) + 1)) (fun g122 => g122)))))))))) else (bnd (upd g (479 + (4 * (g 478))).toNatClampNeg (g (fx4_entry x1 0).toNatClampNeg)) (fun g125 => (bnd (upd g125 ((479 + (4 * (g 478))) + 1).toNatClampNeg x2) (fun g127 => (bnd (upd g127 ((479 + (4 * (g 478))) + 2).toNatClampNeg 3) (fun g129 => (bnd (upd g129 ((479 + (4 * (g 478))) + 3).toNatClampNeg ((g129 14) + (g129 1))) (fun g131 => (bnd (upd g131 478 ((g131 478) + 1)) (fun g132 => g132))))))))))))) else (bnd (upd g (479 + (4 * (g 478))).toNatClampNeg (g (fx4_entry x1 0).toNatClampNeg)) (fun g135 => (bnd (upd g135 ((479 + (4 * (g 478))) + 1).toNatClampNeg x2) (fun g137 => (bnd (upd g137 ((479 + (4 * (g 478))) + 2).toNatClampNeg 2) (fun g139 => (bnd (upd g139 ((479 + (4 * (g 478))) + 3).toNatClampNeg ((g139 14) + (g139 1))) (fun g141 => (bnd (upd g141 478 ((g141 478) + 1)) (fun g142 => g142)))))))))))))))
def sx4_looks (g : (Nat → Int32)) (x1 : Int32) (x2 : Int32) : Prop := (if x2 = 1 then (vp_in (fx4_entry x1 2) 1203 ∧ (if (g (fx4_entry x1 2).toNatClampNeg) = 3 then (vp_in (8 + x2) 1203 ∧ (sx4_itemAt g (g (8 + x2).toNatClampNeg) ∧ (bnd (fx4_itemAt g (g (8 + x2).toNatClampNeg)) (fun v5 => (if v5 = (-1) then (vp_in (fx4_entry x1 0) 1203 ∧ (vp_in (479 + (4 * (g 478))) 1203 ∧ (bnd (upd g (479 + (4 * (g 478))).toNatClampNeg (g (fx4_entry x1 0).toNatClampNeg)) (fun g9 => (vp_in ((479 + (4 * (g 478))) + 1) 1203 ∧ (bnd (upd g9 ((479 + (4 * (g 478))) + 1).toNatClampNeg x2) (fun g11 => (vp_in ((479 + (4 * (g 478))) + 2) 1203 ∧ (bnd (upd g11 ((479 + (4 * (g 478))) + 2).toNatClampNeg 2) (fun g13 => vp_in ((479 + (4 * (g 478))) + 3) 1203)))))))))) else (vp_in (fx4_thing v5 3) 1203 ∧ (if (g (fx4_thing v5 3).toNatClampNeg) = 1 then (vp_in (fx4_thing v5 2) 1203 ∧ (if (g (fx4_thing v5 2).toNatClampNeg) = 0 then (vp_in (fx4_entry x1 0) 1203 ∧ (vp_in (479 + (4 * (g 478))) 1203 ∧ (bnd (upd g (479 + (4 * (g 478))).toNatClampNeg (g (fx4_entry x1 0).toNatClampNeg)) (fun g23 => (vp_in ((479 + (4 * (g 478))) + 1) 1203 ∧ (bnd (upd g23 ((479 + (4 * (g 478))) + 1).toNatClampNeg x2) (fun g25 => (vp_in ((479 + (4 * (g 478))) + 2) 1203 ∧ (bnd (upd g25 ((479 + (4 * (g 478))) + 2).toNatClampNeg 1) (fun g27 => vp_in ((479 + (4 * (g 478))) + 3) 1203)))))))))) else (if (g (fx4_thing v5 2).toNatClampNeg) = 1 then (vp_in (fx4_entry x1 0) 1203 ∧ (vp_in (479 + (4 * (g 478))) 1203 ∧ (bnd (upd g (479 + (4 * (g 478))).toNatClampNeg (g (fx4_entry x1 0).toNatClampNeg)) (fun g34 => (vp_in ((479 + (4 * (g 478))) + 1) 1203 ∧ (bnd (upd g34 ((479 + (4 * (g 478))) + 1).toNatClampNeg x2) (fun g36 => (vp_in ((479 + (4 * (g 478))) + 2) 1203 ∧ (bnd (upd g36 ((479 + (4 * (g 478))) + 2).toNatClampNeg 2) (fun g38 => vp_in ((479 + (4 * (g 478))) + 3) 1203)))))))))) else (if (g (fx4_thing v5 2).toNatClampNeg) = 2 then (vp_in (fx4_entry x1 0) 1203 ∧ (vp_in (479 + (4 * (g 478))) 1203 ∧ (bnd (upd g (479 + (4 * (g 478))).toNatClampNeg (g (fx4_entry x1 0).toNatClampNeg)) (fun g45 => (vp_in ((479 + (4 * (g 478))) + 1) 1203 ∧ (bnd (upd g45 ((479 + (4 * (g 478))) + 1).toNatClampNeg x2) (fun g47 => (vp_in ((479 + (4 * (g 478))) + 2) 1203 ∧ (bnd (upd g47 ((479 + (4 * (g 478))) + 2).toNatClampNeg 1) (fun g49 => vp_in ((479 + (4 * (g 478))) + 3) 1203)))))))))) else (vp_in (fx4_entry x1 0) 1203 ∧ (vp_in (479 + (4 * (g 478))) 1203 ∧ (bnd (upd g (479 + (4 * (g 478))).toNatClampNeg (g (fx4_entry x1 0).toNatClampNeg)) (fun g55 => (vp_in ((479 + (4 * (g 478))) + 1) 1203 ∧ (bnd (upd g55 ((479 + (4 * (g 478))) + 1).toNatClampNeg x2) (fun g57 => (vp_in ((479 + (4 * (g 478))) + 2) 1203 ∧ (bnd (upd g57 ((479 + (4 * (g 478))) + 2).toNatClampNeg 3) (fun g59 => vp_in ((479 + (4 * (g 478))) + 3) 1203)))))))))))))) else (vp_in (fx4_entry x1 0) 1203 ∧ (vp_in (479 + (4 * (g 478))) 1203 ∧ (bnd (upd g (479 + (4 * (g 478))).toNatClampNeg (g (fx4_entry x1 0).toNatClampNeg)) (fun g65 => (vp_in ((479 + (4 * (g 478))) + 1) 1203 ∧ (bnd (upd g65 ((479 + (4 * (g 478))) + 1).toNatClampNeg x2) (fun g67 => (vp_in ((479 + (4 * (g 478))) + 2) 1203 ∧ (bnd (upd g67 ((479 + (4 * (g 478))) + 2).toNatClampNeg 2) (fun g69 => vp_in ((479 + (4 * (g 478))) + 3) 1203))))))))))))))))) else True)) else (vp_in (8 + x2) 1203 ∧ (sx4_itemAt g (g (8 + x2).toNatClampNeg) ∧ (bnd (fx4_itemAt g (g (8 + x2).toNatClampNeg)) (fun v75 => (if v75 = (-1) then (vp_in (fx4_entry x1 0) 1203 ∧ (vp_in (479 + (4 * (g 478))) 1203 ∧ (bnd (upd g (479 + (4 * (g 478))).toNatClampNeg (g (fx4_entry x1 0).toNatClampNeg)) (fun g79 => (vp_in ((479 + (4 * (g 478))) + 1) 1203 ∧ (bnd (upd g79 ((479 + (4 * (g 478))) + 1).toNatClampNeg x2) (fun g81 => (vp_in ((479 + (4 * (g 478))) + 2) 1203 ∧ (bnd (upd g81 ((479 + (4 * (g 478))) + 2).toNatClampNeg 2) (fun g83 => vp_in ((479 + (4 * (g 478))) + 3) 1203)))))))))) else (vp_in (fx4_thing v75 3) 1203 ∧ (if (g (fx4_thing v75 3).toNatClampNeg) = 1 then (vp_in (fx4_thing v75 2) 1203 ∧ (if (g (fx4_thing v75 2).toNatClampNeg) = 0 then (vp_in (fx4_entry x1 0) 1203 ∧ (vp_in (479 + (4 * (g 478))) 1203 ∧ (bnd (upd g (479 + (4 * (g 478))).toNatClampNeg (g (fx4_entry x1 0).toNatClampNeg)) (fun g93 => (vp_in ((479 + (4 * (g 478))) + 1) 1203 ∧ (bnd (upd g93 ((479 + (4 * (g 478))) + 1).toNatClampNeg x2) (fun g95 => (vp_in ((479 + (4 * (g 478))) + 2) 1203 ∧ (bnd (upd g95 ((479 + (4 * (g 478))) + 2).toNatClampNeg 1) (fun g97 => vp_in ((479 + (4 * (g 478))) + 3) 1203)))))))))) else (if (g (fx4_thing v75 2).toNatClampNeg) = 1 then (vp_in (fx4_entry x1 0) 1203 ∧ (vp_in (479 + (4 * (g 478))) 1203 ∧ (bnd (upd g (479 + (4 * (g 478))).toNatClampNeg (g (fx4_entry x1 0).toNatClampNeg)) (fun g104 => (vp_in ((479 + (4 * (g 478))) + 1) 1203 ∧ (bnd (upd g104 ((479 + (4 * (g 478))) + 1).toNatClampNeg x2) (fun g106 => (vp_in ((479 + (4 * (g 478))) + 2) 1203 ∧ (bnd (upd g106 ((479 + (4 * (g 478))) + 2).toNatClampNeg 2) (fun g108 => vp_in ((479 + (4 * (g 478))) + 3) 1203)))))))))) else (if (g (fx4_thing v75 2).toNatClampNeg) = 2 then (vp_in (fx4_entry x1 0) 1203 ∧ (vp_in (479 + (4 * (g 478))) 1203 ∧ (bnd (upd g (479 + (4 * (g 478))).toNatClampNeg (g (fx4_entry x1 0).toNatClampNeg)) (fun g115 => (vp_in ((479 + (4 * (g 478))) + 1) 1203 ∧ (bnd (upd g115 ((479 + (4 * (g 478))) + 1).toNatClampNeg x2) (fun g117 => (vp_in ((479 + (4 * (g 478))) + 2) 1203 ∧ (bnd (upd g117 ((479 + (4 * (g 478))) + 2).toNatClampNeg 3) (fun g119 => vp_in ((479 + (4 * (g 478))) + 3) 1203)))))))))) else (vp_in (fx4_entry x1 0) 1203 ∧ (vp_in (479 + (4 * (g 478))) 1203 ∧ (bnd (upd g (479 + (4 * (g 478))).toNatClampNeg (g (fx4_entry x1 0).toNatClampNeg)) (fun g125 => (vp_in ((479 + (4 * (g 478))) + 1) 1203 ∧ (bnd (upd g125 ((479 + (4 * (g 478))) + 1).toNatClampNeg x2) (fun g127 => (vp_in ((479 + (4 * (g 478))) + 2) 1203 ∧ (bnd (upd g127 ((479 + (4 * (g 478))) + 2).toNatClampNeg 3) (fun g129 => vp_in ((479 + (4 * (g 478))) + 3) 1203)))))))))))))) else (vp_in (fx4_entry x1 0) 1203 ∧ (vp_in (479 + (4 * (g 478))) 1203 ∧ (bnd (upd g (479 + (4 * (g 478))).toNatClampNeg (g (fx4_entry x1 0).toNatClampNeg)) (fun g135 => (vp_in ((479 + (4 * (g 478))) + 1) 1203 ∧ (bnd (upd g135 ((479 + (4 * (g 478))) + 1).toNatClampNeg x2) (fun g137 => (vp_in ((479 + (4 * (g 478))) + 2) 1203 ∧ (bnd (upd g137 ((479 + (4 * (g 478))) + 2).toNatClampNeg 2) (fun g139 => vp_in ((479 + (4 * (g 478))) + 3) 1203))))))))))))))))))
set_option maxHeartbeats 4000000 in
set_option maxRecDepth 100000 in
theorem cx4_looks {l : Launch} {D : va_G} {cI cB cS cJ : ClassId} {K : State → Prop} (E : kE D cI cB cS cJ K) (am : Nat → Nat) (sv rf ln : Int32) (hs : Int64) (g : (Nat → Int32)) (x1 : Int32) (x2 : Int32) (hF : sx4_looks g x1 x2) : kV l D K yX4_looks wsX4_looks 2 46 [.ref (am 0), .int x1, .int x2] (mnW cI am sv rf ln hs g)  (mnW cI am sv rf ln hs (fx4_looks g x1 x2)) := by
  refine kV_of (own := RX4) (cc := cX4_looks) (maxL := 6) (tys := kty cI cB cS cJ) (fun U h => (E.2 U h).1) (by decide) rfl rfl (Nat.le_of_ble_eq_true rfl) ?_
  intro p e s m below meth c A ls hx hb hr hml hts hown hlk hKs hK hP hD hA hS hl
  have hl : lv_has ls 6 [(0, .ref (am 0)), (1, .int x1), (2, .int x2)] := hl
  have hX : CallFix p m c cX4_looks 6 s _ wsX4_looks RX4 := ⟨hx, hb, hml, hown, hts⟩
  have hinX4 : ∀ w ∈ wsX40, w ∈ wsX4_looks := fun w h => List.mem_cons_of_mem _ (List.mem_append_right _ h)
  have q1 := hts (.fieldLink RX4 7 "LabelStationModel" "now" "[I") (List.mem_of_getElem? (i := 1) rfl)
  generalize hR : fx4_looks g x1 x2 = R
  rw [fx4_looks] at hR
  rw [sx4_looks] at hF
  refine lv_iload_n hx hb dX4_looks_0 rfl (lv_at hl 2 rfl) ?_
  refine lv_iconst (v := 1) hx hb dX4_looks_1 (by decide) ?_
  refine lv_icmp_ne (tgt := 20) hx hb dX4_looks_2 (by decide) (fun c1 => ?_) (fun c1 => ?_)
  · rw [if_neg c1] at hR hF
    refine lv_aload_n hx hb dX4_looks_20 rfl (lv_at hl 0 rfl) ?_
    refine lv_aload_n hx hb dX4_looks_21 rfl (lv_at hl 0 rfl) ?_
    refine va_get (D := D) (ci := 4) (v := .ref (am 1)) (C := RX4) (T := TX4) (N := 8) hx hb hts hinX4 hown hK hP 0 rfl rfl 0 (by decide) q1 (fun _ h9 => h9) rfl dX4_looks_22 ?_
    refine lv_bipush (v := 8) hx hb dX4_looks_25 (by decide) ?_
    refine lv_iload_n hx hb dX4_looks_27 rfl (lv_at hl 2 rfl) ?_
    refine lv_iadd hx hb dX4_looks_28 ?_
    obtain ⟨hi74, hF⟩ := hF
    refine va_iald hx hb hK hP 1 0 rfl rfl hi74 dX4_looks_29 ?_
    obtain ⟨hs143, hF⟩ := hF
    refine kcI (ci := 4) (q0 := 0) (As := [.int (g (8 + x2).toNatClampNeg)]) (rest := []) E.1 (cx4_itemAt E am sv rf ln hs g (g (8 + x2).toNatClampNeg) hs143) hX (cwV 1 hts gX4_looks_X4_itemAt rfl rfl rfl hdX4_itemAt ⟨Nat.le_of_ble_eq_true rfl, Nat.le_of_ble_eq_true rfl⟩) hKs hK hP hD hS hA _ _ (kw_self _) (kw_self _).symm rfl rfl rfl rfl hl.1 (Nat.le_of_ble_eq_true rfl) dX4_looks_30 ⟨Nat.zero_le _, Nat.zero_le _⟩ (fun H locs hP hD hS => ?_)
    generalize ev75 : fx4_itemAt g (g (8 + x2).toNatClampNeg) = v75 at hR hF ⊢
    replace hR := bnd_e hR
    replace hF := bnd_p hF
    refine lv_istore_n (lv' := [(3, .int v75), (0, .ref (am 0)), (1, .int x1), (2, .int x2)]) hx hb dX4_looks_33 rfl hl (by decide) rfl (fun ls hl => ?_)
    refine lv_iconst (v := 2) hx hb dX4_looks_34 (by decide) ?_
    refine lv_istore (lv' := [(4, .int 2), (3, .int v75), (0, .ref (am 0)), (1, .int x1), (2, .int x2)]) hx hb dX4_looks_35 hl (by decide) rfl (fun ls hl => ?_)
    refine lv_iload_n hx hb dX4_looks_37 rfl (lv_at hl 1 rfl) ?_
    refine lv_iconst (v := (-1)) hx hb dX4_looks_38 (by decide) ?_
    refine lv_icmp_eq (tgt := 105) hx hb dX4_looks_39 (by decide) (fun c76 => ?_) (fun c76 => ?_)
    · rw [if_pos c76] at hR hF
      refine lv_sipush (v := 479) hx hb dX4_looks_105 (by decide) ?_
      refine lv_iconst (v := 4) hx hb dX4_looks_108 (by decide) ?_
      refine lv_aload_n hx hb dX4_looks_109 rfl (lv_at hl 2 rfl) ?_
      refine va_get (D := D) (ci := 4) (v := .ref (am 1)) (C := RX4) (T := TX4) (N := 8) hx hb hts hinX4 hown hK hP 0 rfl rfl 0 (by decide) q1 (fun _ h9 => h9) rfl dX4_looks_110 ?_
      refine lv_sipush (v := 478) hx hb dX4_looks_113 (by decide) ?_
      refine va_iald hx hb hK hP 1 0 rfl rfl (kin_lit (j := 478) (n := 1203) (by decide) (by decide)) dX4_looks_116 ?_
      refine kw_top (v := .int (g 478)) rfl ?_
      refine lv_imul hx hb dX4_looks_117 ?_
      refine lv_iadd hx hb dX4_looks_118 ?_
      refine lv_istore (lv' := [(5, .int (479 + (4 * (g 478)))), (4, .int 2), (3, .int v75), (0, .ref (am 0)), (1, .int x1), (2, .int x2)]) hx hb dX4_looks_119 hl (by decide) rfl (fun ls hl => ?_)
      refine lv_aload_n hx hb dX4_looks_121 rfl (lv_at hl 3 rfl) ?_
      refine va_get (D := D) (ci := 4) (v := .ref (am 1)) (C := RX4) (T := TX4) (N := 8) hx hb hts hinX4 hown hK hP 0 rfl rfl 0 (by decide) q1 (fun _ h9 => h9) rfl dX4_looks_122 ?_
      refine lv_iload hx hb dX4_looks_125 (lv_at hl 0 rfl) ?_
      refine lv_aload_n hx hb dX4_looks_127 rfl (lv_at hl 3 rfl) ?_
      refine va_get (D := D) (ci := 4) (v := .ref (am 1)) (C := RX4) (T := TX4) (N := 8) hx hb hts hinX4 hown hK hP 0 rfl rfl 0 (by decide) q1 (fun _ h9 => h9) rfl dX4_looks_128 ?_
      refine lv_iload_n hx hb dX4_looks_131 rfl (lv_at hl 4 rfl) ?_
      refine lv_iconst (v := 0) hx hb dX4_looks_132 (by decide) ?_
      refine kcsI (As := [.int x1, .int 0]) (rest := [.ref (am 1), .int (479 + (4 * (g 478))), .ref (am 1)]) E.1 (cx4_entry E x1 0) hX (va_cwS 2 hts gX4_looks_X4_entry rfl rfl rfl hdX4_entry.2 ⟨Nat.le_of_ble_eq_true rfl, Nat.le_of_ble_eq_true rfl⟩) hKs hP hD hS hA _ _ (kw_nil _) (kw_nil _).symm rfl rfl hl.1 (Nat.le_of_ble_eq_true rfl) dX4_looks_133 ⟨Nat.zero_le _, Nat.zero_le _⟩ (fun H locs hP hD hS => ?_)
      obtain ⟨hi77, hF⟩ := hF
      refine va_iald hx hb hK hP 1 0 rfl rfl hi77 dX4_looks_136 ?_
      obtain ⟨hi78, hF⟩ := hF
      refine va_iast hx hb hK hP hD hS 1 0 rfl rfl hi78 dX4_looks_137 (fun H locs hP hD hS => ?_)
      have hP : va_P D vwCl (mnW cI am sv rf ln hs (upd g (479 + (4 * (g 478))).toNatClampNeg (g (fx4_entry x1 0).toNatClampNeg))) H := hP
      have hD : va_D A (mnW cI am sv rf ln hs (upd g (479 + (4 * (g 478))).toNatClampNeg (g (fx4_entry x1 0).toNatClampNeg))) := hD
      generalize eg79 : upd g (479 + (4 * (g 478))).toNatClampNeg (g (fx4_entry x1 0).toNatClampNeg) = g79 at hR hP hD hF
      replace hR := bnd_e hR
      replace hF := bnd_p hF
      refine lv_aload_n hx hb dX4_looks_138 rfl (lv_at hl 3 rfl) ?_
      refine va_get (D := D) (ci := 4) (v := .ref (am 1)) (C := RX4) (T := TX4) (N := 8) hx hb hts hinX4 hown hK hP 0 rfl rfl 0 (by decide) q1 (fun _ h9 => h9) rfl dX4_looks_139 ?_
      refine lv_iload hx hb dX4_looks_142 (lv_at hl 0 rfl) ?_
      refine lv_iconst (v := 1) hx hb dX4_looks_144 (by decide) ?_
      refine lv_iadd hx hb dX4_looks_145 ?_
      refine lv_iload_n hx hb dX4_looks_146 rfl (lv_at hl 5 rfl) ?_
      obtain ⟨hi80, hF⟩ := hF
      refine va_iast hx hb hK hP hD hS 1 0 rfl rfl hi80 dX4_looks_147 (fun H locs hP hD hS => ?_)
      have hP : va_P D vwCl (mnW cI am sv rf ln hs (upd g79 ((479 + (4 * (g 478))) + 1).toNatClampNeg x2)) H := hP
      have hD : va_D A (mnW cI am sv rf ln hs (upd g79 ((479 + (4 * (g 478))) + 1).toNatClampNeg x2)) := hD
      generalize eg81 : upd g79 ((479 + (4 * (g 478))) + 1).toNatClampNeg x2 = g81 at hR hP hD hF
      replace hR := bnd_e hR
      replace hF := bnd_p hF
      refine lv_aload_n hx hb dX4_looks_148 rfl (lv_at hl 3 rfl) ?_
      refine va_get (D := D) (ci := 4) (v := .ref (am 1)) (C := RX4) (T := TX4) (N := 8) hx hb hts hinX4 hown hK hP 0 rfl rfl 0 (by decide) q1 (fun _ h9 => h9) rfl dX4_looks_149 ?_
      refine lv_iload hx hb dX4_looks_152 (lv_at hl 0 rfl) ?_
      refine lv_iconst (v := 2) hx hb dX4_looks_154 (by decide) ?_
      refine lv_iadd hx hb dX4_looks_155 ?_
      refine lv_iload hx hb dX4_looks_156 (lv_at hl 1 rfl) ?_
      obtain ⟨hi82, hF⟩ := hF
      refine va_iast hx hb hK hP hD hS 1 0 rfl rfl hi82 dX4_looks_158 (fun H locs hP hD hS => ?_)
      have hP : va_P D vwCl (mnW cI am sv rf ln hs (upd g81 ((479 + (4 * (g 478))) + 2).toNatClampNeg 2)) H := hP
      have hD : va_D A (mnW cI am sv rf ln hs (upd g81 ((479 + (4 * (g 478))) + 2).toNatClampNeg 2)) := hD
      generalize eg83 : upd g81 ((479 + (4 * (g 478))) + 2).toNatClampNeg 2 = g83 at hR hP hD hF
      replace hR := bnd_e hR
      replace hF := bnd_p hF
      refine lv_aload_n hx hb dX4_looks_159 rfl (lv_at hl 3 rfl) ?_
      refine va_get (D := D) (ci := 4) (v := .ref (am 1)) (C := RX4) (T := TX4) (N := 8) hx hb hts hinX4 hown hK hP 0 rfl rfl 0 (by decide) q1 (fun _ h9 => h9) rfl dX4_looks_160 ?_
      refine lv_iload hx hb dX4_looks_163 (lv_at hl 0 rfl) ?_
      refine lv_iconst (v := 3) hx hb dX4_looks_165 (by decide) ?_
      refine lv_iadd hx hb dX4_looks_166 ?_
      refine lv_aload_n hx hb dX4_looks_167 rfl (lv_at hl 3 rfl) ?_
      refine va_get (D := D) (ci := 4) (v := .ref (am 1)) (C := RX4) (T := TX4) (N := 8) hx hb hts hinX4 hown hK hP 0 rfl rfl 0 (by decide) q1 (fun _ h9 => h9) rfl dX4_looks_168 ?_
      refine lv_bipush (v := 14) hx hb dX4_looks_171 (by decide) ?_
      refine va_iald hx hb hK hP 1 0 rfl rfl (kin_lit (j := 14) (n := 1203) (by decide) (by decide)) dX4_looks_173 ?_
      refine kw_top (v := .int (g83 14)) rfl ?_
      refine lv_aload_n hx hb dX4_looks_174 rfl (lv_at hl 3 rfl) ?_
      refine va_get (D := D) (ci := 4) (v := .ref (am 1)) (C := RX4) (T := TX4) (N := 8) hx hb hts hinX4 hown hK hP 0 rfl rfl 0 (by decide) q1 (fun _ h9 => h9) rfl dX4_looks_175 ?_
      refine lv_iconst (v := 1) hx hb dX4_looks_178 (by decide) ?_
      refine va_iald hx hb hK hP 1 0 rfl rfl (kin_lit (j := 1) (n := 1203) (by decide) (by decide)) dX4_looks_179 ?_
      refine kw_top (v := .int (g83 1)) rfl ?_
      refine lv_iadd hx hb dX4_looks_180 ?_
      have hi84 := hF
      refine va_iast hx hb hK hP hD hS 1 0 rfl rfl hi84 dX4_looks_181 (fun H locs hP hD hS => ?_)
      have hP : va_P D vwCl (mnW cI am sv rf ln hs (upd g83 ((479 + (4 * (g 478))) + 3).toNatClampNeg ((g83 14) + (g83 1)))) H := hP
      have hD : va_D A (mnW cI am sv rf ln hs (upd g83 ((479 + (4 * (g 478))) + 3).toNatClampNeg ((g83 14) + (g83 1)))) := hD
      generalize eg85 : upd g83 ((479 + (4 * (g 478))) + 3).toNatClampNeg ((g83 14) + (g83 1)) = g85 at hR hP hD
      replace hR := bnd_e hR
      refine lv_aload_n hx hb dX4_looks_182 rfl (lv_at hl 3 rfl) ?_
      refine va_get (D := D) (ci := 4) (v := .ref (am 1)) (C := RX4) (T := TX4) (N := 8) hx hb hts hinX4 hown hK hP 0 rfl rfl 0 (by decide) q1 (fun _ h9 => h9) rfl dX4_looks_183 ?_
      refine lv_sipush (v := 478) hx hb dX4_looks_186 (by decide) ?_
      refine lv_dup2_11 hx hb dX4_looks_189 rfl rfl ?_
      refine va_iald hx hb hK hP 1 0 rfl rfl (kin_lit (j := 478) (n := 1203) (by decide) (by decide)) dX4_looks_190 ?_
      refine kw_top (v := .int (g85 478)) rfl ?_
      refine lv_iconst (v := 1) hx hb dX4_looks_191 (by decide) ?_
      refine lv_iadd hx hb dX4_looks_192 ?_
      refine va_iast hx hb hK hP hD hS 1 0 rfl rfl (kin_lit (j := 478) (n := 1203) (by decide) (by decide)) dX4_looks_193 (fun H locs hP hD hS => ?_)
      have hP : va_P D vwCl (mnW cI am sv rf ln hs (upd g85 478 ((g85 478) + 1))) H := hP
      have hD : va_D A (mnW cI am sv rf ln hs (upd g85 478 ((g85 478) + 1))) := hD
      generalize eg86 : upd g85 478 ((g85 478) + 1) = g86 at hR hP hD
      replace hR := bnd_e hR
      subst hR
      exact krV hx hb hr hlk hP hD hS dX4_looks_194 rfl
    · rw [if_neg c76] at hR hF
      refine lv_aload_n hx hb dX4_looks_42 rfl (lv_at hl 2 rfl) ?_
      refine va_get (D := D) (ci := 4) (v := .ref (am 1)) (C := RX4) (T := TX4) (N := 8) hx hb hts hinX4 hown hK hP 0 rfl rfl 0 (by decide) q1 (fun _ h9 => h9) rfl dX4_looks_43 ?_
      refine lv_iload_n hx hb dX4_looks_46 rfl (lv_at hl 1 rfl) ?_
      refine lv_iconst (v := 3) hx hb dX4_looks_47 (by decide) ?_
      refine kcsI (As := [.int v75, .int 3]) (rest := [.ref (am 1)]) E.1 (cx4_thing E v75 3) hX (va_cwS 2 hts gX4_looks_X4_thing rfl rfl rfl hdX4_thing.2 ⟨Nat.le_of_ble_eq_true rfl, Nat.le_of_ble_eq_true rfl⟩) hKs hP hD hS hA _ _ (kw_nil _) (kw_nil _).symm rfl rfl hl.1 (Nat.le_of_ble_eq_true rfl) dX4_looks_48 ⟨Nat.zero_le _, Nat.zero_le _⟩ (fun H locs hP hD hS => ?_)
      obtain ⟨hi87, hF⟩ := hF
      refine va_iald hx hb hK hP 1 0 rfl rfl hi87 dX4_looks_51 ?_
      refine lv_iconst (v := 1) hx hb dX4_looks_52 (by decide) ?_
      refine lv_icmp_ne (tgt := 105) hx hb dX4_looks_53 (by decide) (fun c88 => ?_) (fun c88 => ?_)
      · rw [if_neg c88] at hR hF
        refine lv_sipush (v := 479) hx hb dX4_looks_105 (by decide) ?_
        refine lv_iconst (v := 4) hx hb dX4_looks_108 (by decide) ?_
        refine lv_aload_n hx hb dX4_looks_109 rfl (lv_at hl 2 rfl) ?_
        refine va_get (D := D) (ci := 4) (v := .ref (am 1)) (C := RX4) (T := TX4) (N := 8) hx hb hts hinX4 hown hK hP 0 rfl rfl 0 (by decide) q1 (fun _ h9 => h9) rfl dX4_looks_110 ?_
        refine lv_sipush (v := 478) hx hb dX4_looks_113 (by decide) ?_
        refine va_iald hx hb hK hP 1 0 rfl rfl (kin_lit (j := 478) (n := 1203) (by decide) (by decide)) dX4_looks_116 ?_
        refine kw_top (v := .int (g 478)) rfl ?_
        refine lv_imul hx hb dX4_looks_117 ?_
        refine lv_iadd hx hb dX4_looks_118 ?_
        refine lv_istore (lv' := [(5, .int (479 + (4 * (g 478)))), (4, .int 2), (3, .int v75), (0, .ref (am 0)), (1, .int x1), (2, .int x2)]) hx hb dX4_looks_119 hl (by decide) rfl (fun ls hl => ?_)
        refine lv_aload_n hx hb dX4_looks_121 rfl (lv_at hl 3 rfl) ?_
        refine va_get (D := D) (ci := 4) (v := .ref (am 1)) (C := RX4) (T := TX4) (N := 8) hx hb hts hinX4 hown hK hP 0 rfl rfl 0 (by decide) q1 (fun _ h9 => h9) rfl dX4_looks_122 ?_
        refine lv_iload hx hb dX4_looks_125 (lv_at hl 0 rfl) ?_
        refine lv_aload_n hx hb dX4_looks_127 rfl (lv_at hl 3 rfl) ?_
        refine va_get (D := D) (ci := 4) (v := .ref (am 1)) (C := RX4) (T := TX4) (N := 8) hx hb hts hinX4 hown hK hP 0 rfl rfl 0 (by decide) q1 (fun _ h9 => h9) rfl dX4_looks_128 ?_
        refine lv_iload_n hx hb dX4_looks_131 rfl (lv_at hl 4 rfl) ?_
        refine lv_iconst (v := 0) hx hb dX4_looks_132 (by decide) ?_
        refine kcsI (As := [.int x1, .int 0]) (rest := [.ref (am 1), .int (479 + (4 * (g 478))), .ref (am 1)]) E.1 (cx4_entry E x1 0) hX (va_cwS 2 hts gX4_looks_X4_entry rfl rfl rfl hdX4_entry.2 ⟨Nat.le_of_ble_eq_true rfl, Nat.le_of_ble_eq_true rfl⟩) hKs hP hD hS hA _ _ (kw_nil _) (kw_nil _).symm rfl rfl hl.1 (Nat.le_of_ble_eq_true rfl) dX4_looks_133 ⟨Nat.zero_le _, Nat.zero_le _⟩ (fun H locs hP hD hS => ?_)
        obtain ⟨hi133, hF⟩ := hF
        refine va_iald hx hb hK hP 1 0 rfl rfl hi133 dX4_looks_136 ?_
        obtain ⟨hi134, hF⟩ := hF
        refine va_iast hx hb hK hP hD hS 1 0 rfl rfl hi134 dX4_looks_137 (fun H locs hP hD hS => ?_)
        have hP : va_P D vwCl (mnW cI am sv rf ln hs (upd g (479 + (4 * (g 478))).toNatClampNeg (g (fx4_entry x1 0).toNatClampNeg))) H := hP
        have hD : va_D A (mnW cI am sv rf ln hs (upd g (479 + (4 * (g 478))).toNatClampNeg (g (fx4_entry x1 0).toNatClampNeg))) := hD
        generalize eg135 : upd g (479 + (4 * (g 478))).toNatClampNeg (g (fx4_entry x1 0).toNatClampNeg) = g135 at hR hP hD hF
        replace hR := bnd_e hR
        replace hF := bnd_p hF
        refine lv_aload_n hx hb dX4_looks_138 rfl (lv_at hl 3 rfl) ?_
        refine va_get (D := D) (ci := 4) (v := .ref (am 1)) (C := RX4) (T := TX4) (N := 8) hx hb hts hinX4 hown hK hP 0 rfl rfl 0 (by decide) q1 (fun _ h9 => h9) rfl dX4_looks_139 ?_
        refine lv_iload hx hb dX4_looks_142 (lv_at hl 0 rfl) ?_
        refine lv_iconst (v := 1) hx hb dX4_looks_144 (by decide) ?_
        refine lv_iadd hx hb dX4_looks_145 ?_
        refine lv_iload_n hx hb dX4_looks_146 rfl (lv_at hl 5 rfl) ?_
        obtain ⟨hi136, hF⟩ := hF
        refine va_iast hx hb hK hP hD hS 1 0 rfl rfl hi136 dX4_looks_147 (fun H locs hP hD hS => ?_)
        have hP : va_P D vwCl (mnW cI am sv rf ln hs (upd g135 ((479 + (4 * (g 478))) + 1).toNatClampNeg x2)) H := hP
        have hD : va_D A (mnW cI am sv rf ln hs (upd g135 ((479 + (4 * (g 478))) + 1).toNatClampNeg x2)) := hD
        generalize eg137 : upd g135 ((479 + (4 * (g 478))) + 1).toNatClampNeg x2 = g137 at hR hP hD hF
        replace hR := bnd_e hR
        replace hF := bnd_p hF
        refine lv_aload_n hx hb dX4_looks_148 rfl (lv_at hl 3 rfl) ?_
        refine va_get (D := D) (ci := 4) (v := .ref (am 1)) (C := RX4) (T := TX4) (N := 8) hx hb hts hinX4 hown hK hP 0 rfl rfl 0 (by decide) q1 (fun _ h9 => h9) rfl dX4_looks_149 ?_
        refine lv_iload hx hb dX4_looks_152 (lv_at hl 0 rfl) ?_
        refine lv_iconst (v := 2) hx hb dX4_looks_154 (by decide) ?_
        refine lv_iadd hx hb dX4_looks_155 ?_
        refine lv_iload hx hb dX4_looks_156 (lv_at hl 1 rfl) ?_
        obtain ⟨hi138, hF⟩ := hF
        refine va_iast hx hb hK hP hD hS 1 0 rfl rfl hi138 dX4_looks_158 (fun H locs hP hD hS => ?_)
        have hP : va_P D vwCl (mnW cI am sv rf ln hs (upd g137 ((479 + (4 * (g 478))) + 2).toNatClampNeg 2)) H := hP
        have hD : va_D A (mnW cI am sv rf ln hs (upd g137 ((479 + (4 * (g 478))) + 2).toNatClampNeg 2)) := hD
        generalize eg139 : upd g137 ((479 + (4 * (g 478))) + 2).toNatClampNeg 2 = g139 at hR hP hD hF
        replace hR := bnd_e hR
        replace hF := bnd_p hF
        refine lv_aload_n hx hb dX4_looks_159 rfl (lv_at hl 3 rfl) ?_
        refine va_get (D := D) (ci := 4) (v := .ref (am 1)) (C := RX4) (T := TX4) (N := 8) hx hb hts hinX4 hown hK hP 0 rfl rfl 0 (by decide) q1 (fun _ h9 => h9) rfl dX4_looks_160 ?_
        refine lv_iload hx hb dX4_looks_163 (lv_at hl 0 rfl) ?_
        refine lv_iconst (v := 3) hx hb dX4_looks_165 (by decide) ?_
        refine lv_iadd hx hb dX4_looks_166 ?_
        refine lv_aload_n hx hb dX4_looks_167 rfl (lv_at hl 3 rfl) ?_
        refine va_get (D := D) (ci := 4) (v := .ref (am 1)) (C := RX4) (T := TX4) (N := 8) hx hb hts hinX4 hown hK hP 0 rfl rfl 0 (by decide) q1 (fun _ h9 => h9) rfl dX4_looks_168 ?_
        refine lv_bipush (v := 14) hx hb dX4_looks_171 (by decide) ?_
        refine va_iald hx hb hK hP 1 0 rfl rfl (kin_lit (j := 14) (n := 1203) (by decide) (by decide)) dX4_looks_173 ?_
        refine kw_top (v := .int (g139 14)) rfl ?_
        refine lv_aload_n hx hb dX4_looks_174 rfl (lv_at hl 3 rfl) ?_
        refine va_get (D := D) (ci := 4) (v := .ref (am 1)) (C := RX4) (T := TX4) (N := 8) hx hb hts hinX4 hown hK hP 0 rfl rfl 0 (by decide) q1 (fun _ h9 => h9) rfl dX4_looks_175 ?_
        refine lv_iconst (v := 1) hx hb dX4_looks_178 (by decide) ?_
        refine va_iald hx hb hK hP 1 0 rfl rfl (kin_lit (j := 1) (n := 1203) (by decide) (by decide)) dX4_looks_179 ?_
        refine kw_top (v := .int (g139 1)) rfl ?_
        refine lv_iadd hx hb dX4_looks_180 ?_
        have hi140 := hF
        refine va_iast hx hb hK hP hD hS 1 0 rfl rfl hi140 dX4_looks_181 (fun H locs hP hD hS => ?_)
        have hP : va_P D vwCl (mnW cI am sv rf ln hs (upd g139 ((479 + (4 * (g 478))) + 3).toNatClampNeg ((g139 14) + (g139 1)))) H := hP
        have hD : va_D A (mnW cI am sv rf ln hs (upd g139 ((479 + (4 * (g 478))) + 3).toNatClampNeg ((g139 14) + (g139 1)))) := hD
        generalize eg141 : upd g139 ((479 + (4 * (g 478))) + 3).toNatClampNeg ((g139 14) + (g139 1)) = g141 at hR hP hD
        replace hR := bnd_e hR
        refine lv_aload_n hx hb dX4_looks_182 rfl (lv_at hl 3 rfl) ?_
        refine va_get (D := D) (ci := 4) (v := .ref (am 1)) (C := RX4) (T := TX4) (N := 8) hx hb hts hinX4 hown hK hP 0 rfl rfl 0 (by decide) q1 (fun _ h9 => h9) rfl dX4_looks_183 ?_
        refine lv_sipush (v := 478) hx hb dX4_looks_186 (by decide) ?_
        refine lv_dup2_11 hx hb dX4_looks_189 rfl rfl ?_
        refine va_iald hx hb hK hP 1 0 rfl rfl (kin_lit (j := 478) (n := 1203) (by decide) (by decide)) dX4_looks_190 ?_
        refine kw_top (v := .int (g141 478)) rfl ?_
        refine lv_iconst (v := 1) hx hb dX4_looks_191 (by decide) ?_
        refine lv_iadd hx hb dX4_looks_192 ?_
        refine va_iast hx hb hK hP hD hS 1 0 rfl rfl (kin_lit (j := 478) (n := 1203) (by decide) (by decide)) dX4_looks_193 (fun H locs hP hD hS => ?_)
        have hP : va_P D vwCl (mnW cI am sv rf ln hs (upd g141 478 ((g141 478) + 1))) H := hP
        have hD : va_D A (mnW cI am sv rf ln hs (upd g141 478 ((g141 478) + 1))) := hD
        generalize eg142 : upd g141 478 ((g141 478) + 1) = g142 at hR hP hD
        replace hR := bnd_e hR
        subst hR
        exact krV hx hb hr hlk hP hD hS dX4_looks_194 rfl
      · rw [if_pos c88] at hR hF
        refine lv_aload_n hx hb dX4_looks_56 rfl (lv_at hl 2 rfl) ?_
        refine va_get (D := D) (ci := 4) (v := .ref (am 1)) (C := RX4) (T := TX4) (N := 8) hx hb hts hinX4 hown hK hP 0 rfl rfl 0 (by decide) q1 (fun _ h9 => h9) rfl dX4_looks_57 ?_
        refine lv_iload_n hx hb dX4_looks_60 rfl (lv_at hl 1 rfl) ?_
        refine lv_iconst (v := 2) hx hb dX4_looks_61 (by decide) ?_
        refine kcsI (As := [.int v75, .int 2]) (rest := [.ref (am 1)]) E.1 (cx4_thing E v75 2) hX (va_cwS 2 hts gX4_looks_X4_thing rfl rfl rfl hdX4_thing.2 ⟨Nat.le_of_ble_eq_true rfl, Nat.le_of_ble_eq_true rfl⟩) hKs hP hD hS hA _ _ (kw_nil _) (kw_nil _).symm rfl rfl hl.1 (Nat.le_of_ble_eq_true rfl) dX4_looks_62 ⟨Nat.zero_le _, Nat.zero_le _⟩ (fun H locs hP hD hS => ?_)
        obtain ⟨hi89, hF⟩ := hF
        refine va_iald hx hb hK hP 1 0 rfl rfl hi89 dX4_looks_65 ?_
        refine lv_istore (lv' := [(5, .int (g (fx4_thing v75 2).toNatClampNeg)), (4, .int 2), (3, .int v75), (0, .ref (am 0)), (1, .int x1), (2, .int x2)]) hx hb dX4_looks_66 hl (by decide) rfl (fun ls hl => ?_)
        refine lv_iload hx hb dX4_looks_68 (lv_at hl 0 rfl) ?_
        refine lv_if_ne (tgt := 77) hx hb dX4_looks_70 (by decide) (fun c90 => ?_) (fun c90 => ?_)
        · rw [if_neg c90] at hR hF
          refine lv_iload hx hb dX4_looks_77 (lv_at hl 0 rfl) ?_
          refine lv_iconst (v := 1) hx hb dX4_looks_79 (by decide) ?_
          refine lv_icmp_ne (tgt := 87) hx hb dX4_looks_80 (by decide) (fun c101 => ?_) (fun c101 => ?_)
          · rw [if_neg c101] at hR hF
            refine lv_iload hx hb dX4_looks_87 (lv_at hl 0 rfl) ?_
            refine lv_iconst (v := 2) hx hb dX4_looks_89 (by decide) ?_
            refine lv_icmp_ne (tgt := 102) hx hb dX4_looks_90 (by decide) (fun c112 => ?_) (fun c112 => ?_)
            · rw [if_neg c112] at hR hF
              refine lv_iconst (v := 3) hx hb dX4_looks_102 (by decide) ?_
              refine lv_istore (lv' := [(4, .int 3), (5, .int (g (fx4_thing v75 2).toNatClampNeg)), (3, .int v75), (0, .ref (am 0)), (1, .int x1), (2, .int x2)]) hx hb dX4_looks_103 hl (by decide) rfl (fun ls hl => ?_)
              refine lv_sipush (v := 479) hx hb dX4_looks_105 (by decide) ?_
              refine lv_iconst (v := 4) hx hb dX4_looks_108 (by decide) ?_
              refine lv_aload_n hx hb dX4_looks_109 rfl (lv_at hl 3 rfl) ?_
              refine va_get (D := D) (ci := 4) (v := .ref (am 1)) (C := RX4) (T := TX4) (N := 8) hx hb hts hinX4 hown hK hP 0 rfl rfl 0 (by decide) q1 (fun _ h9 => h9) rfl dX4_looks_110 ?_
              refine lv_sipush (v := 478) hx hb dX4_looks_113 (by decide) ?_
              refine va_iald hx hb hK hP 1 0 rfl rfl (kin_lit (j := 478) (n := 1203) (by decide) (by decide)) dX4_looks_116 ?_
              refine kw_top (v := .int (g 478)) rfl ?_
              refine lv_imul hx hb dX4_looks_117 ?_
              refine lv_iadd hx hb dX4_looks_118 ?_
              refine lv_istore (lv' := [(5, .int (479 + (4 * (g 478)))), (4, .int 3), (3, .int v75), (0, .ref (am 0)), (1, .int x1), (2, .int x2)]) hx hb dX4_looks_119 hl (by decide) rfl (fun ls hl => ?_)
              refine lv_aload_n hx hb dX4_looks_121 rfl (lv_at hl 3 rfl) ?_
              refine va_get (D := D) (ci := 4) (v := .ref (am 1)) (C := RX4) (T := TX4) (N := 8) hx hb hts hinX4 hown hK hP 0 rfl rfl 0 (by decide) q1 (fun _ h9 => h9) rfl dX4_looks_122 ?_
              refine lv_iload hx hb dX4_looks_125 (lv_at hl 0 rfl) ?_
              refine lv_aload_n hx hb dX4_looks_127 rfl (lv_at hl 3 rfl) ?_
              refine va_get (D := D) (ci := 4) (v := .ref (am 1)) (C := RX4) (T := TX4) (N := 8) hx hb hts hinX4 hown hK hP 0 rfl rfl 0 (by decide) q1 (fun _ h9 => h9) rfl dX4_looks_128 ?_
              refine lv_iload_n hx hb dX4_looks_131 rfl (lv_at hl 4 rfl) ?_
              refine lv_iconst (v := 0) hx hb dX4_looks_132 (by decide) ?_
              refine kcsI (As := [.int x1, .int 0]) (rest := [.ref (am 1), .int (479 + (4 * (g 478))), .ref (am 1)]) E.1 (cx4_entry E x1 0) hX (va_cwS 2 hts gX4_looks_X4_entry rfl rfl rfl hdX4_entry.2 ⟨Nat.le_of_ble_eq_true rfl, Nat.le_of_ble_eq_true rfl⟩) hKs hP hD hS hA _ _ (kw_nil _) (kw_nil _).symm rfl rfl hl.1 (Nat.le_of_ble_eq_true rfl) dX4_looks_133 ⟨Nat.zero_le _, Nat.zero_le _⟩ (fun H locs hP hD hS => ?_)
              obtain ⟨hi123, hF⟩ := hF
              refine va_iald hx hb hK hP 1 0 rfl rfl hi123 dX4_looks_136 ?_
              obtain ⟨hi124, hF⟩ := hF
              refine va_iast hx hb hK hP hD hS 1 0 rfl rfl hi124 dX4_looks_137 (fun H locs hP hD hS => ?_)
              have hP : va_P D vwCl (mnW cI am sv rf ln hs (upd g (479 + (4 * (g 478))).toNatClampNeg (g (fx4_entry x1 0).toNatClampNeg))) H := hP
              have hD : va_D A (mnW cI am sv rf ln hs (upd g (479 + (4 * (g 478))).toNatClampNeg (g (fx4_entry x1 0).toNatClampNeg))) := hD
              generalize eg125 : upd g (479 + (4 * (g 478))).toNatClampNeg (g (fx4_entry x1 0).toNatClampNeg) = g125 at hR hP hD hF
              replace hR := bnd_e hR
              replace hF := bnd_p hF
              refine lv_aload_n hx hb dX4_looks_138 rfl (lv_at hl 3 rfl) ?_
              refine va_get (D := D) (ci := 4) (v := .ref (am 1)) (C := RX4) (T := TX4) (N := 8) hx hb hts hinX4 hown hK hP 0 rfl rfl 0 (by decide) q1 (fun _ h9 => h9) rfl dX4_looks_139 ?_
              refine lv_iload hx hb dX4_looks_142 (lv_at hl 0 rfl) ?_
              refine lv_iconst (v := 1) hx hb dX4_looks_144 (by decide) ?_
              refine lv_iadd hx hb dX4_looks_145 ?_
              refine lv_iload_n hx hb dX4_looks_146 rfl (lv_at hl 5 rfl) ?_
              obtain ⟨hi126, hF⟩ := hF
              refine va_iast hx hb hK hP hD hS 1 0 rfl rfl hi126 dX4_looks_147 (fun H locs hP hD hS => ?_)
              have hP : va_P D vwCl (mnW cI am sv rf ln hs (upd g125 ((479 + (4 * (g 478))) + 1).toNatClampNeg x2)) H := hP
              have hD : va_D A (mnW cI am sv rf ln hs (upd g125 ((479 + (4 * (g 478))) + 1).toNatClampNeg x2)) := hD
              generalize eg127 : upd g125 ((479 + (4 * (g 478))) + 1).toNatClampNeg x2 = g127 at hR hP hD hF
              replace hR := bnd_e hR
              replace hF := bnd_p hF
              refine lv_aload_n hx hb dX4_looks_148 rfl (lv_at hl 3 rfl) ?_
              refine va_get (D := D) (ci := 4) (v := .ref (am 1)) (C := RX4) (T := TX4) (N := 8) hx hb hts hinX4 hown hK hP 0 rfl rfl 0 (by decide) q1 (fun _ h9 => h9) rfl dX4_looks_149 ?_
              refine lv_iload hx hb dX4_looks_152 (lv_at hl 0 rfl) ?_
              refine lv_iconst (v := 2) hx hb dX4_looks_154 (by decide) ?_
              refine lv_iadd hx hb dX4_looks_155 ?_
              refine lv_iload hx hb dX4_looks_156 (lv_at hl 1 rfl) ?_
              obtain ⟨hi128, hF⟩ := hF
              refine va_iast hx hb hK hP hD hS 1 0 rfl rfl hi128 dX4_looks_158 (fun H locs hP hD hS => ?_)
              have hP : va_P D vwCl (mnW cI am sv rf ln hs (upd g127 ((479 + (4 * (g 478))) + 2).toNatClampNeg 3)) H := hP
              have hD : va_D A (mnW cI am sv rf ln hs (upd g127 ((479 + (4 * (g 478))) + 2).toNatClampNeg 3)) := hD
              generalize eg129 : upd g127 ((479 + (4 * (g 478))) + 2).toNatClampNeg 3 = g129 at hR hP hD hF
              replace hR := bnd_e hR
              replace hF := bnd_p hF
              refine lv_aload_n hx hb dX4_looks_159 rfl (lv_at hl 3 rfl) ?_
              refine va_get (D := D) (ci := 4) (v := .ref (am 1)) (C := RX4) (T := TX4) (N := 8) hx hb hts hinX4 hown hK hP 0 rfl rfl 0 (by decide) q1 (fun _ h9 => h9) rfl dX4_looks_160 ?_
              refine lv_iload hx hb dX4_looks_163 (lv_at hl 0 rfl) ?_
              refine lv_iconst (v := 3) hx hb dX4_looks_165 (by decide) ?_
              refine lv_iadd hx hb dX4_looks_166 ?_
              refine lv_aload_n hx hb dX4_looks_167 rfl (lv_at hl 3 rfl) ?_
              refine va_get (D := D) (ci := 4) (v := .ref (am 1)) (C := RX4) (T := TX4) (N := 8) hx hb hts hinX4 hown hK hP 0 rfl rfl 0 (by decide) q1 (fun _ h9 => h9) rfl dX4_looks_168 ?_
              refine lv_bipush (v := 14) hx hb dX4_looks_171 (by decide) ?_
              refine va_iald hx hb hK hP 1 0 rfl rfl (kin_lit (j := 14) (n := 1203) (by decide) (by decide)) dX4_looks_173 ?_
              refine kw_top (v := .int (g129 14)) rfl ?_
              refine lv_aload_n hx hb dX4_looks_174 rfl (lv_at hl 3 rfl) ?_
              refine va_get (D := D) (ci := 4) (v := .ref (am 1)) (C := RX4) (T := TX4) (N := 8) hx hb hts hinX4 hown hK hP 0 rfl rfl 0 (by decide) q1 (fun _ h9 => h9) rfl dX4_looks_175 ?_
              refine lv_iconst (v := 1) hx hb dX4_looks_178 (by decide) ?_
              refine va_iald hx hb hK hP 1 0 rfl rfl (kin_lit (j := 1) (n := 1203) (by decide) (by decide)) dX4_looks_179 ?_
              refine kw_top (v := .int (g129 1)) rfl ?_
              refine lv_iadd hx hb dX4_looks_180 ?_
              have hi130 := hF
              refine va_iast hx hb hK hP hD hS 1 0 rfl rfl hi130 dX4_looks_181 (fun H locs hP hD hS => ?_)
              have hP : va_P D vwCl (mnW cI am sv rf ln hs (upd g129 ((479 + (4 * (g 478))) + 3).toNatClampNeg ((g129 14) + (g129 1)))) H := hP
              have hD : va_D A (mnW cI am sv rf ln hs (upd g129 ((479 + (4 * (g 478))) + 3).toNatClampNeg ((g129 14) + (g129 1)))) := hD
              generalize eg131 : upd g129 ((479 + (4 * (g 478))) + 3).toNatClampNeg ((g129 14) + (g129 1)) = g131 at hR hP hD
              replace hR := bnd_e hR
              refine lv_aload_n hx hb dX4_looks_182 rfl (lv_at hl 3 rfl) ?_
              refine va_get (D := D) (ci := 4) (v := .ref (am 1)) (C := RX4) (T := TX4) (N := 8) hx hb hts hinX4 hown hK hP 0 rfl rfl 0 (by decide) q1 (fun _ h9 => h9) rfl dX4_looks_183 ?_
              refine lv_sipush (v := 478) hx hb dX4_looks_186 (by decide) ?_
              refine lv_dup2_11 hx hb dX4_looks_189 rfl rfl ?_
              refine va_iald hx hb hK hP 1 0 rfl rfl (kin_lit (j := 478) (n := 1203) (by decide) (by decide)) dX4_looks_190 ?_
              refine kw_top (v := .int (g131 478)) rfl ?_
              refine lv_iconst (v := 1) hx hb dX4_looks_191 (by decide) ?_
              refine lv_iadd hx hb dX4_looks_192 ?_
              refine va_iast hx hb hK hP hD hS 1 0 rfl rfl (kin_lit (j := 478) (n := 1203) (by decide) (by decide)) dX4_looks_193 (fun H locs hP hD hS => ?_)
              have hP : va_P D vwCl (mnW cI am sv rf ln hs (upd g131 478 ((g131 478) + 1))) H := hP
              have hD : va_D A (mnW cI am sv rf ln hs (upd g131 478 ((g131 478) + 1))) := hD
              generalize eg132 : upd g131 478 ((g131 478) + 1) = g132 at hR hP hD
              replace hR := bnd_e hR
              subst hR
              exact krV hx hb hr hlk hP hD hS dX4_looks_194 rfl
            · rw [if_pos c112] at hR hF
              refine lv_iload_n hx hb dX4_looks_93 rfl (lv_at hl 5 rfl) ?_
              refine lv_iconst (v := 1) hx hb dX4_looks_94 (by decide) ?_
              refine lv_icmp_ne (tgt := 102) hx hb dX4_looks_95 (by decide) (fun _ => ?_) (fun c => absurd c c1)
              refine lv_iconst (v := 3) hx hb dX4_looks_102 (by decide) ?_
              refine lv_istore (lv' := [(4, .int 3), (5, .int (g (fx4_thing v75 2).toNatClampNeg)), (3, .int v75), (0, .ref (am 0)), (1, .int x1), (2, .int x2)]) hx hb dX4_looks_103 hl (by decide) rfl (fun ls hl => ?_)
              refine lv_sipush (v := 479) hx hb dX4_looks_105 (by decide) ?_
              refine lv_iconst (v := 4) hx hb dX4_looks_108 (by decide) ?_
              refine lv_aload_n hx hb dX4_looks_109 rfl (lv_at hl 3 rfl) ?_
              refine va_get (D := D) (ci := 4) (v := .ref (am 1)) (C := RX4) (T := TX4) (N := 8) hx hb hts hinX4 hown hK hP 0 rfl rfl 0 (by decide) q1 (fun _ h9 => h9) rfl dX4_looks_110 ?_
              refine lv_sipush (v := 478) hx hb dX4_looks_113 (by decide) ?_
              refine va_iald hx hb hK hP 1 0 rfl rfl (kin_lit (j := 478) (n := 1203) (by decide) (by decide)) dX4_looks_116 ?_
              refine kw_top (v := .int (g 478)) rfl ?_
              refine lv_imul hx hb dX4_looks_117 ?_
              refine lv_iadd hx hb dX4_looks_118 ?_
              refine lv_istore (lv' := [(5, .int (479 + (4 * (g 478)))), (4, .int 3), (3, .int v75), (0, .ref (am 0)), (1, .int x1), (2, .int x2)]) hx hb dX4_looks_119 hl (by decide) rfl (fun ls hl => ?_)
              refine lv_aload_n hx hb dX4_looks_121 rfl (lv_at hl 3 rfl) ?_
              refine va_get (D := D) (ci := 4) (v := .ref (am 1)) (C := RX4) (T := TX4) (N := 8) hx hb hts hinX4 hown hK hP 0 rfl rfl 0 (by decide) q1 (fun _ h9 => h9) rfl dX4_looks_122 ?_
              refine lv_iload hx hb dX4_looks_125 (lv_at hl 0 rfl) ?_
              refine lv_aload_n hx hb dX4_looks_127 rfl (lv_at hl 3 rfl) ?_
              refine va_get (D := D) (ci := 4) (v := .ref (am 1)) (C := RX4) (T := TX4) (N := 8) hx hb hts hinX4 hown hK hP 0 rfl rfl 0 (by decide) q1 (fun _ h9 => h9) rfl dX4_looks_128 ?_
              refine lv_iload_n hx hb dX4_looks_131 rfl (lv_at hl 4 rfl) ?_
              refine lv_iconst (v := 0) hx hb dX4_looks_132 (by decide) ?_
              refine kcsI (As := [.int x1, .int 0]) (rest := [.ref (am 1), .int (479 + (4 * (g 478))), .ref (am 1)]) E.1 (cx4_entry E x1 0) hX (va_cwS 2 hts gX4_looks_X4_entry rfl rfl rfl hdX4_entry.2 ⟨Nat.le_of_ble_eq_true rfl, Nat.le_of_ble_eq_true rfl⟩) hKs hP hD hS hA _ _ (kw_nil _) (kw_nil _).symm rfl rfl hl.1 (Nat.le_of_ble_eq_true rfl) dX4_looks_133 ⟨Nat.zero_le _, Nat.zero_le _⟩ (fun H locs hP hD hS => ?_)
              obtain ⟨hi113, hF⟩ := hF
              refine va_iald hx hb hK hP 1 0 rfl rfl hi113 dX4_looks_136 ?_
              obtain ⟨hi114, hF⟩ := hF
              refine va_iast hx hb hK hP hD hS 1 0 rfl rfl hi114 dX4_looks_137 (fun H locs hP hD hS => ?_)
              have hP : va_P D vwCl (mnW cI am sv rf ln hs (upd g (479 + (4 * (g 478))).toNatClampNeg (g (fx4_entry x1 0).toNatClampNeg))) H := hP
              have hD : va_D A (mnW cI am sv rf ln hs (upd g (479 + (4 * (g 478))).toNatClampNeg (g (fx4_entry x1 0).toNatClampNeg))) := hD
              generalize eg115 : upd g (479 + (4 * (g 478))).toNatClampNeg (g (fx4_entry x1 0).toNatClampNeg) = g115 at hR hP hD hF
              replace hR := bnd_e hR
              replace hF := bnd_p hF
              refine lv_aload_n hx hb dX4_looks_138 rfl (lv_at hl 3 rfl) ?_
              refine va_get (D := D) (ci := 4) (v := .ref (am 1)) (C := RX4) (T := TX4) (N := 8) hx hb hts hinX4 hown hK hP 0 rfl rfl 0 (by decide) q1 (fun _ h9 => h9) rfl dX4_looks_139 ?_
              refine lv_iload hx hb dX4_looks_142 (lv_at hl 0 rfl) ?_
              refine lv_iconst (v := 1) hx hb dX4_looks_144 (by decide) ?_
              refine lv_iadd hx hb dX4_looks_145 ?_
              refine lv_iload_n hx hb dX4_looks_146 rfl (lv_at hl 5 rfl) ?_
              obtain ⟨hi116, hF⟩ := hF
              refine va_iast hx hb hK hP hD hS 1 0 rfl rfl hi116 dX4_looks_147 (fun H locs hP hD hS => ?_)
              have hP : va_P D vwCl (mnW cI am sv rf ln hs (upd g115 ((479 + (4 * (g 478))) + 1).toNatClampNeg x2)) H := hP
              have hD : va_D A (mnW cI am sv rf ln hs (upd g115 ((479 + (4 * (g 478))) + 1).toNatClampNeg x2)) := hD
              generalize eg117 : upd g115 ((479 + (4 * (g 478))) + 1).toNatClampNeg x2 = g117 at hR hP hD hF
              replace hR := bnd_e hR
              replace hF := bnd_p hF
              refine lv_aload_n hx hb dX4_looks_148 rfl (lv_at hl 3 rfl) ?_
              refine va_get (D := D) (ci := 4) (v := .ref (am 1)) (C := RX4) (T := TX4) (N := 8) hx hb hts hinX4 hown hK hP 0 rfl rfl 0 (by decide) q1 (fun _ h9 => h9) rfl dX4_looks_149 ?_
              refine lv_iload hx hb dX4_looks_152 (lv_at hl 0 rfl) ?_
              refine lv_iconst (v := 2) hx hb dX4_looks_154 (by decide) ?_
              refine lv_iadd hx hb dX4_looks_155 ?_
              refine lv_iload hx hb dX4_looks_156 (lv_at hl 1 rfl) ?_
              obtain ⟨hi118, hF⟩ := hF
              refine va_iast hx hb hK hP hD hS 1 0 rfl rfl hi118 dX4_looks_158 (fun H locs hP hD hS => ?_)
              have hP : va_P D vwCl (mnW cI am sv rf ln hs (upd g117 ((479 + (4 * (g 478))) + 2).toNatClampNeg 3)) H := hP
              have hD : va_D A (mnW cI am sv rf ln hs (upd g117 ((479 + (4 * (g 478))) + 2).toNatClampNeg 3)) := hD
              generalize eg119 : upd g117 ((479 + (4 * (g 478))) + 2).toNatClampNeg 3 = g119 at hR hP hD hF
              replace hR := bnd_e hR
              replace hF := bnd_p hF
              refine lv_aload_n hx hb dX4_looks_159 rfl (lv_at hl 3 rfl) ?_
              refine va_get (D := D) (ci := 4) (v := .ref (am 1)) (C := RX4) (T := TX4) (N := 8) hx hb hts hinX4 hown hK hP 0 rfl rfl 0 (by decide) q1 (fun _ h9 => h9) rfl dX4_looks_160 ?_
              refine lv_iload hx hb dX4_looks_163 (lv_at hl 0 rfl) ?_
              refine lv_iconst (v := 3) hx hb dX4_looks_165 (by decide) ?_
              refine lv_iadd hx hb dX4_looks_166 ?_
              refine lv_aload_n hx hb dX4_looks_167 rfl (lv_at hl 3 rfl) ?_
              refine va_get (D := D) (ci := 4) (v := .ref (am 1)) (C := RX4) (T := TX4) (N := 8) hx hb hts hinX4 hown hK hP 0 rfl rfl 0 (by decide) q1 (fun _ h9 => h9) rfl dX4_looks_168 ?_
              refine lv_bipush (v := 14) hx hb dX4_looks_171 (by decide) ?_
              refine va_iald hx hb hK hP 1 0 rfl rfl (kin_lit (j := 14) (n := 1203) (by decide) (by decide)) dX4_looks_173 ?_
              refine kw_top (v := .int (g119 14)) rfl ?_
              refine lv_aload_n hx hb dX4_looks_174 rfl (lv_at hl 3 rfl) ?_
              refine va_get (D := D) (ci := 4) (v := .ref (am 1)) (C := RX4) (T := TX4) (N := 8) hx hb hts hinX4 hown hK hP 0 rfl rfl 0 (by decide) q1 (fun _ h9 => h9) rfl dX4_looks_175 ?_
              refine lv_iconst (v := 1) hx hb dX4_looks_178 (by decide) ?_
              refine va_iald hx hb hK hP 1 0 rfl rfl (kin_lit (j := 1) (n := 1203) (by decide) (by decide)) dX4_looks_179 ?_
              refine kw_top (v := .int (g119 1)) rfl ?_
              refine lv_iadd hx hb dX4_looks_180 ?_
              have hi120 := hF
              refine va_iast hx hb hK hP hD hS 1 0 rfl rfl hi120 dX4_looks_181 (fun H locs hP hD hS => ?_)
              have hP : va_P D vwCl (mnW cI am sv rf ln hs (upd g119 ((479 + (4 * (g 478))) + 3).toNatClampNeg ((g119 14) + (g119 1)))) H := hP
              have hD : va_D A (mnW cI am sv rf ln hs (upd g119 ((479 + (4 * (g 478))) + 3).toNatClampNeg ((g119 14) + (g119 1)))) := hD
              generalize eg121 : upd g119 ((479 + (4 * (g 478))) + 3).toNatClampNeg ((g119 14) + (g119 1)) = g121 at hR hP hD
              replace hR := bnd_e hR
              refine lv_aload_n hx hb dX4_looks_182 rfl (lv_at hl 3 rfl) ?_
              refine va_get (D := D) (ci := 4) (v := .ref (am 1)) (C := RX4) (T := TX4) (N := 8) hx hb hts hinX4 hown hK hP 0 rfl rfl 0 (by decide) q1 (fun _ h9 => h9) rfl dX4_looks_183 ?_
              refine lv_sipush (v := 478) hx hb dX4_looks_186 (by decide) ?_
              refine lv_dup2_11 hx hb dX4_looks_189 rfl rfl ?_
              refine va_iald hx hb hK hP 1 0 rfl rfl (kin_lit (j := 478) (n := 1203) (by decide) (by decide)) dX4_looks_190 ?_
              refine kw_top (v := .int (g121 478)) rfl ?_
              refine lv_iconst (v := 1) hx hb dX4_looks_191 (by decide) ?_
              refine lv_iadd hx hb dX4_looks_192 ?_
              refine va_iast hx hb hK hP hD hS 1 0 rfl rfl (kin_lit (j := 478) (n := 1203) (by decide) (by decide)) dX4_looks_193 (fun H locs hP hD hS => ?_)
              have hP : va_P D vwCl (mnW cI am sv rf ln hs (upd g121 478 ((g121 478) + 1))) H := hP
              have hD : va_D A (mnW cI am sv rf ln hs (upd g121 478 ((g121 478) + 1))) := hD
              generalize eg122 : upd g121 478 ((g121 478) + 1) = g122 at hR hP hD
              replace hR := bnd_e hR
              subst hR
              exact krV hx hb hr hlk hP hD hS dX4_looks_194 rfl
          · rw [if_pos c101] at hR hF
            refine lv_iconst (v := 2) hx hb dX4_looks_83 (by decide) ?_
            refine lv_goto (tgt := 103) hx hb dX4_looks_84 (by decide) ?_
            refine lv_istore (lv' := [(4, .int 2), (5, .int (g (fx4_thing v75 2).toNatClampNeg)), (3, .int v75), (0, .ref (am 0)), (1, .int x1), (2, .int x2)]) hx hb dX4_looks_103 hl (by decide) rfl (fun ls hl => ?_)
            refine lv_sipush (v := 479) hx hb dX4_looks_105 (by decide) ?_
            refine lv_iconst (v := 4) hx hb dX4_looks_108 (by decide) ?_
            refine lv_aload_n hx hb dX4_looks_109 rfl (lv_at hl 3 rfl) ?_
            refine va_get (D := D) (ci := 4) (v := .ref (am 1)) (C := RX4) (T := TX4) (N := 8) hx hb hts hinX4 hown hK hP 0 rfl rfl 0 (by decide) q1 (fun _ h9 => h9) rfl dX4_looks_110 ?_
            refine lv_sipush (v := 478) hx hb dX4_looks_113 (by decide) ?_
            refine va_iald hx hb hK hP 1 0 rfl rfl (kin_lit (j := 478) (n := 1203) (by decide) (by decide)) dX4_looks_116 ?_
            refine kw_top (v := .int (g 478)) rfl ?_
            refine lv_imul hx hb dX4_looks_117 ?_
            refine lv_iadd hx hb dX4_looks_118 ?_
            refine lv_istore (lv' := [(5, .int (479 + (4 * (g 478)))), (4, .int 2), (3, .int v75), (0, .ref (am 0)), (1, .int x1), (2, .int x2)]) hx hb dX4_looks_119 hl (by decide) rfl (fun ls hl => ?_)
            refine lv_aload_n hx hb dX4_looks_121 rfl (lv_at hl 3 rfl) ?_
            refine va_get (D := D) (ci := 4) (v := .ref (am 1)) (C := RX4) (T := TX4) (N := 8) hx hb hts hinX4 hown hK hP 0 rfl rfl 0 (by decide) q1 (fun _ h9 => h9) rfl dX4_looks_122 ?_
            refine lv_iload hx hb dX4_looks_125 (lv_at hl 0 rfl) ?_
            refine lv_aload_n hx hb dX4_looks_127 rfl (lv_at hl 3 rfl) ?_
            refine va_get (D := D) (ci := 4) (v := .ref (am 1)) (C := RX4) (T := TX4) (N := 8) hx hb hts hinX4 hown hK hP 0 rfl rfl 0 (by decide) q1 (fun _ h9 => h9) rfl dX4_looks_128 ?_
            refine lv_iload_n hx hb dX4_looks_131 rfl (lv_at hl 4 rfl) ?_
            refine lv_iconst (v := 0) hx hb dX4_looks_132 (by decide) ?_
            refine kcsI (As := [.int x1, .int 0]) (rest := [.ref (am 1), .int (479 + (4 * (g 478))), .ref (am 1)]) E.1 (cx4_entry E x1 0) hX (va_cwS 2 hts gX4_looks_X4_entry rfl rfl rfl hdX4_entry.2 ⟨Nat.le_of_ble_eq_true rfl, Nat.le_of_ble_eq_true rfl⟩) hKs hP hD hS hA _ _ (kw_nil _) (kw_nil _).symm rfl rfl hl.1 (Nat.le_of_ble_eq_true rfl) dX4_looks_133 ⟨Nat.zero_le _, Nat.zero_le _⟩ (fun H locs hP hD hS => ?_)
            obtain ⟨hi102, hF⟩ := hF
            refine va_iald hx hb hK hP 1 0 rfl rfl hi102 dX4_looks_136 ?_
            obtain ⟨hi103, hF⟩ := hF
            refine va_iast hx hb hK hP hD hS 1 0 rfl rfl hi103 dX4_looks_137 (fun H locs hP hD hS => ?_)
            have hP : va_P D vwCl (mnW cI am sv rf ln hs (upd g (479 + (4 * (g 478))).toNatClampNeg (g (fx4_entry x1 0).toNatClampNeg))) H := hP
            have hD : va_D A (mnW cI am sv rf ln hs (upd g (479 + (4 * (g 478))).toNatClampNeg (g (fx4_entry x1 0).toNatClampNeg))) := hD
            generalize eg104 : upd g (479 + (4 * (g 478))).toNatClampNeg (g (fx4_entry x1 0).toNatClampNeg) = g104 at hR hP hD hF
            replace hR := bnd_e hR
            replace hF := bnd_p hF
            refine lv_aload_n hx hb dX4_looks_138 rfl (lv_at hl 3 rfl) ?_
            refine va_get (D := D) (ci := 4) (v := .ref (am 1)) (C := RX4) (T := TX4) (N := 8) hx hb hts hinX4 hown hK hP 0 rfl rfl 0 (by decide) q1 (fun _ h9 => h9) rfl dX4_looks_139 ?_
            refine lv_iload hx hb dX4_looks_142 (lv_at hl 0 rfl) ?_
            refine lv_iconst (v := 1) hx hb dX4_looks_144 (by decide) ?_
            refine lv_iadd hx hb dX4_looks_145 ?_
            refine lv_iload_n hx hb dX4_looks_146 rfl (lv_at hl 5 rfl) ?_
            obtain ⟨hi105, hF⟩ := hF
            refine va_iast hx hb hK hP hD hS 1 0 rfl rfl hi105 dX4_looks_147 (fun H locs hP hD hS => ?_)
            have hP : va_P D vwCl (mnW cI am sv rf ln hs (upd g104 ((479 + (4 * (g 478))) + 1).toNatClampNeg x2)) H := hP
            have hD : va_D A (mnW cI am sv rf ln hs (upd g104 ((479 + (4 * (g 478))) + 1).toNatClampNeg x2)) := hD
            generalize eg106 : upd g104 ((479 + (4 * (g 478))) + 1).toNatClampNeg x2 = g106 at hR hP hD hF
            replace hR := bnd_e hR
            replace hF := bnd_p hF
            refine lv_aload_n hx hb dX4_looks_148 rfl (lv_at hl 3 rfl) ?_
            refine va_get (D := D) (ci := 4) (v := .ref (am 1)) (C := RX4) (T := TX4) (N := 8) hx hb hts hinX4 hown hK hP 0 rfl rfl 0 (by decide) q1 (fun _ h9 => h9) rfl dX4_looks_149 ?_
            refine lv_iload hx hb dX4_looks_152 (lv_at hl 0 rfl) ?_
            refine lv_iconst (v := 2) hx hb dX4_looks_154 (by decide) ?_
            refine lv_iadd hx hb dX4_looks_155 ?_
            refine lv_iload hx hb dX4_looks_156 (lv_at hl 1 rfl) ?_
            obtain ⟨hi107, hF⟩ := hF
            refine va_iast hx hb hK hP hD hS 1 0 rfl rfl hi107 dX4_looks_158 (fun H locs hP hD hS => ?_)
            have hP : va_P D vwCl (mnW cI am sv rf ln hs (upd g106 ((479 + (4 * (g 478))) + 2).toNatClampNeg 2)) H := hP
            have hD : va_D A (mnW cI am sv rf ln hs (upd g106 ((479 + (4 * (g 478))) + 2).toNatClampNeg 2)) := hD
            generalize eg108 : upd g106 ((479 + (4 * (g 478))) + 2).toNatClampNeg 2 = g108 at hR hP hD hF
            replace hR := bnd_e hR
            replace hF := bnd_p hF
            refine lv_aload_n hx hb dX4_looks_159 rfl (lv_at hl 3 rfl) ?_
            refine va_get (D := D) (ci := 4) (v := .ref (am 1)) (C := RX4) (T := TX4) (N := 8) hx hb hts hinX4 hown hK hP 0 rfl rfl 0 (by decide) q1 (fun _ h9 => h9) rfl dX4_looks_160 ?_
            refine lv_iload hx hb dX4_looks_163 (lv_at hl 0 rfl) ?_
            refine lv_iconst (v := 3) hx hb dX4_looks_165 (by decide) ?_
            refine lv_iadd hx hb dX4_looks_166 ?_
            refine lv_aload_n hx hb dX4_looks_167 rfl (lv_at hl 3 rfl) ?_
            refine va_get (D := D) (ci := 4) (v := .ref (am 1)) (C := RX4) (T := TX4) (N := 8) hx hb hts hinX4 hown hK hP 0 rfl rfl 0 (by decide) q1 (fun _ h9 => h9) rfl dX4_looks_168 ?_
            refine lv_bipush (v := 14) hx hb dX4_looks_171 (by decide) ?_
            refine va_iald hx hb hK hP 1 0 rfl rfl (kin_lit (j := 14) (n := 1203) (by decide) (by decide)) dX4_looks_173 ?_
            refine kw_top (v := .int (g108 14)) rfl ?_
            refine lv_aload_n hx hb dX4_looks_174 rfl (lv_at hl 3 rfl) ?_
            refine va_get (D := D) (ci := 4) (v := .ref (am 1)) (C := RX4) (T := TX4) (N := 8) hx hb hts hinX4 hown hK hP 0 rfl rfl 0 (by decide) q1 (fun _ h9 => h9) rfl dX4_looks_175 ?_
            refine lv_iconst (v := 1) hx hb dX4_looks_178 (by decide) ?_
            refine va_iald hx hb hK hP 1 0 rfl rfl (kin_lit (j := 1) (n := 1203) (by decide) (by decide)) dX4_looks_179 ?_
            refine kw_top (v := .int (g108 1)) rfl ?_
            refine lv_iadd hx hb dX4_looks_180 ?_
            have hi109 := hF
            refine va_iast hx hb hK hP hD hS 1 0 rfl rfl hi109 dX4_looks_181 (fun H locs hP hD hS => ?_)
            have hP : va_P D vwCl (mnW cI am sv rf ln hs (upd g108 ((479 + (4 * (g 478))) + 3).toNatClampNeg ((g108 14) + (g108 1)))) H := hP
            have hD : va_D A (mnW cI am sv rf ln hs (upd g108 ((479 + (4 * (g 478))) + 3).toNatClampNeg ((g108 14) + (g108 1)))) := hD
            generalize eg110 : upd g108 ((479 + (4 * (g 478))) + 3).toNatClampNeg ((g108 14) + (g108 1)) = g110 at hR hP hD
            replace hR := bnd_e hR
            refine lv_aload_n hx hb dX4_looks_182 rfl (lv_at hl 3 rfl) ?_
            refine va_get (D := D) (ci := 4) (v := .ref (am 1)) (C := RX4) (T := TX4) (N := 8) hx hb hts hinX4 hown hK hP 0 rfl rfl 0 (by decide) q1 (fun _ h9 => h9) rfl dX4_looks_183 ?_
            refine lv_sipush (v := 478) hx hb dX4_looks_186 (by decide) ?_
            refine lv_dup2_11 hx hb dX4_looks_189 rfl rfl ?_
            refine va_iald hx hb hK hP 1 0 rfl rfl (kin_lit (j := 478) (n := 1203) (by decide) (by decide)) dX4_looks_190 ?_
            refine kw_top (v := .int (g110 478)) rfl ?_
            refine lv_iconst (v := 1) hx hb dX4_looks_191 (by decide) ?_
            refine lv_iadd hx hb dX4_looks_192 ?_
            refine va_iast hx hb hK hP hD hS 1 0 rfl rfl (kin_lit (j := 478) (n := 1203) (by decide) (by decide)) dX4_looks_193 (fun H locs hP hD hS => ?_)
            have hP : va_P D vwCl (mnW cI am sv rf ln hs (upd g110 478 ((g110 478) + 1))) H := hP
            have hD : va_D A (mnW cI am sv rf ln hs (upd g110 478 ((g110 478) + 1))) := hD
            generalize eg111 : upd g110 478 ((g110 478) + 1) = g111 at hR hP hD
            replace hR := bnd_e hR
            subst hR
            exact krV hx hb hr hlk hP hD hS dX4_looks_194 rfl
        · rw [if_pos c90] at hR hF
          refine lv_iconst (v := 1) hx hb dX4_looks_73 (by decide) ?_
          refine lv_goto (tgt := 103) hx hb dX4_looks_74 (by decide) ?_
          refine lv_istore (lv' := [(4, .int 1), (5, .int (g (fx4_thing v75 2).toNatClampNeg)), (3, .int v75), (0, .ref (am 0)), (1, .int x1), (2, .int x2)]) hx hb dX4_looks_103 hl (by decide) rfl (fun ls hl => ?_)
          refine lv_sipush (v := 479) hx hb dX4_looks_105 (by decide) ?_
          refine lv_iconst (v := 4) hx hb dX4_looks_108 (by decide) ?_
          refine lv_aload_n hx hb dX4_looks_109 rfl (lv_at hl 3 rfl) ?_
          refine va_get (D := D) (ci := 4) (v := .ref (am 1)) (C := RX4) (T := TX4) (N := 8) hx hb hts hinX4 hown hK hP 0 rfl rfl 0 (by decide) q1 (fun _ h9 => h9) rfl dX4_looks_110 ?_
          refine lv_sipush (v := 478) hx hb dX4_looks_113 (by decide) ?_
          refine va_iald hx hb hK hP 1 0 rfl rfl (kin_lit (j := 478) (n := 1203) (by decide) (by decide)) dX4_looks_116 ?_
          refine kw_top (v := .int (g 478)) rfl ?_
          refine lv_imul hx hb dX4_looks_117 ?_
          refine lv_iadd hx hb dX4_looks_118 ?_
          refine lv_istore (lv' := [(5, .int (479 + (4 * (g 478)))), (4, .int 1), (3, .int v75), (0, .ref (am 0)), (1, .int x1), (2, .int x2)]) hx hb dX4_looks_119 hl (by decide) rfl (fun ls hl => ?_)
          refine lv_aload_n hx hb dX4_looks_121 rfl (lv_at hl 3 rfl) ?_
          refine va_get (D := D) (ci := 4) (v := .ref (am 1)) (C := RX4) (T := TX4) (N := 8) hx hb hts hinX4 hown hK hP 0 rfl rfl 0 (by decide) q1 (fun _ h9 => h9) rfl dX4_looks_122 ?_
          refine lv_iload hx hb dX4_looks_125 (lv_at hl 0 rfl) ?_
          refine lv_aload_n hx hb dX4_looks_127 rfl (lv_at hl 3 rfl) ?_
          refine va_get (D := D) (ci := 4) (v := .ref (am 1)) (C := RX4) (T := TX4) (N := 8) hx hb hts hinX4 hown hK hP 0 rfl rfl 0 (by decide) q1 (fun _ h9 => h9) rfl dX4_looks_128 ?_
          refine lv_iload_n hx hb dX4_looks_131 rfl (lv_at hl 4 rfl) ?_
          refine lv_iconst (v := 0) hx hb dX4_looks_132 (by decide) ?_
          refine kcsI (As := [.int x1, .int 0]) (rest := [.ref (am 1), .int (479 + (4 * (g 478))), .ref (am 1)]) E.1 (cx4_entry E x1 0) hX (va_cwS 2 hts gX4_looks_X4_entry rfl rfl rfl hdX4_entry.2 ⟨Nat.le_of_ble_eq_true rfl, Nat.le_of_ble_eq_true rfl⟩) hKs hP hD hS hA _ _ (kw_nil _) (kw_nil _).symm rfl rfl hl.1 (Nat.le_of_ble_eq_true rfl) dX4_looks_133 ⟨Nat.zero_le _, Nat.zero_le _⟩ (fun H locs hP hD hS => ?_)
          obtain ⟨hi91, hF⟩ := hF
          refine va_iald hx hb hK hP 1 0 rfl rfl hi91 dX4_looks_136 ?_
          obtain ⟨hi92, hF⟩ := hF
          refine va_iast hx hb hK hP hD hS 1 0 rfl rfl hi92 dX4_looks_137 (fun H locs hP hD hS => ?_)
          have hP : va_P D vwCl (mnW cI am sv rf ln hs (upd g (479 + (4 * (g 478))).toNatClampNeg (g (fx4_entry x1 0).toNatClampNeg))) H := hP
          have hD : va_D A (mnW cI am sv rf ln hs (upd g (479 + (4 * (g 478))).toNatClampNeg (g (fx4_entry x1 0).toNatClampNeg))) := hD
          generalize eg93 : upd g (479 + (4 * (g 478))).toNatClampNeg (g (fx4_entry x1 0).toNatClampNeg) = g93 at hR hP hD hF
          replace hR := bnd_e hR
          replace hF := bnd_p hF
          refine lv_aload_n hx hb dX4_looks_138 rfl (lv_at hl 3 rfl) ?_
          refine va_get (D := D) (ci := 4) (v := .ref (am 1)) (C := RX4) (T := TX4) (N := 8) hx hb hts hinX4 hown hK hP 0 rfl rfl 0 (by decide) q1 (fun _ h9 => h9) rfl dX4_looks_139 ?_
          refine lv_iload hx hb dX4_looks_142 (lv_at hl 0 rfl) ?_
          refine lv_iconst (v := 1) hx hb dX4_looks_144 (by decide) ?_
          refine lv_iadd hx hb dX4_looks_145 ?_
          refine lv_iload_n hx hb dX4_looks_146 rfl (lv_at hl 5 rfl) ?_
          obtain ⟨hi94, hF⟩ := hF
          refine va_iast hx hb hK hP hD hS 1 0 rfl rfl hi94 dX4_looks_147 (fun H locs hP hD hS => ?_)
          have hP : va_P D vwCl (mnW cI am sv rf ln hs (upd g93 ((479 + (4 * (g 478))) + 1).toNatClampNeg x2)) H := hP
          have hD : va_D A (mnW cI am sv rf ln hs (upd g93 ((479 + (4 * (g 478))) + 1).toNatClampNeg x2)) := hD
          generalize eg95 : upd g93 ((479 + (4 * (g 478))) + 1).toNatClampNeg x2 = g95 at hR hP hD hF
          replace hR := bnd_e hR
          replace hF := bnd_p hF
          refine lv_aload_n hx hb dX4_looks_148 rfl (lv_at hl 3 rfl) ?_
          refine va_get (D := D) (ci := 4) (v := .ref (am 1)) (C := RX4) (T := TX4) (N := 8) hx hb hts hinX4 hown hK hP 0 rfl rfl 0 (by decide) q1 (fun _ h9 => h9) rfl dX4_looks_149 ?_
          refine lv_iload hx hb dX4_looks_152 (lv_at hl 0 rfl) ?_
          refine lv_iconst (v := 2) hx hb dX4_looks_154 (by decide) ?_
          refine lv_iadd hx hb dX4_looks_155 ?_
          refine lv_iload hx hb dX4_looks_156 (lv_at hl 1 rfl) ?_
          obtain ⟨hi96, hF⟩ := hF
          refine va_iast hx hb hK hP hD hS 1 0 rfl rfl hi96 dX4_looks_158 (fun H locs hP hD hS => ?_)
          have hP : va_P D vwCl (mnW cI am sv rf ln hs (upd g95 ((479 + (4 * (g 478))) + 2).toNatClampNeg 1)) H := hP
          have hD : va_D A (mnW cI am sv rf ln hs (upd g95 ((479 + (4 * (g 478))) + 2).toNatClampNeg 1)) := hD
          generalize eg97 : upd g95 ((479 + (4 * (g 478))) + 2).toNatClampNeg 1 = g97 at hR hP hD hF
          replace hR := bnd_e hR
          replace hF := bnd_p hF
          refine lv_aload_n hx hb dX4_looks_159 rfl (lv_at hl 3 rfl) ?_
          refine va_get (D := D) (ci := 4) (v := .ref (am 1)) (C := RX4) (T := TX4) (N := 8) hx hb hts hinX4 hown hK hP 0 rfl rfl 0 (by decide) q1 (fun _ h9 => h9) rfl dX4_looks_160 ?_
          refine lv_iload hx hb dX4_looks_163 (lv_at hl 0 rfl) ?_
          refine lv_iconst (v := 3) hx hb dX4_looks_165 (by decide) ?_
          refine lv_iadd hx hb dX4_looks_166 ?_
          refine lv_aload_n hx hb dX4_looks_167 rfl (lv_at hl 3 rfl) ?_
          refine va_get (D := D) (ci := 4) (v := .ref (am 1)) (C := RX4) (T := TX4) (N := 8) hx hb hts hinX4 hown hK hP 0 rfl rfl 0 (by decide) q1 (fun _ h9 => h9) rfl dX4_looks_168 ?_
          refine lv_bipush (v := 14) hx hb dX4_looks_171 (by decide) ?_
          refine va_iald hx hb hK hP 1 0 rfl rfl (kin_lit (j := 14) (n := 1203) (by decide) (by decide)) dX4_looks_173 ?_
          refine kw_top (v := .int (g97 14)) rfl ?_
          refine lv_aload_n hx hb dX4_looks_174 rfl (lv_at hl 3 rfl) ?_
          refine va_get (D := D) (ci := 4) (v := .ref (am 1)) (C := RX4) (T := TX4) (N := 8) hx hb hts hinX4 hown hK hP 0 rfl rfl 0 (by decide) q1 (fun _ h9 => h9) rfl dX4_looks_175 ?_
          refine lv_iconst (v := 1) hx hb dX4_looks_178 (by decide) ?_
          refine va_iald hx hb hK hP 1 0 rfl rfl (kin_lit (j := 1) (n := 1203) (by decide) (by decide)) dX4_looks_179 ?_
          refine kw_top (v := .int (g97 1)) rfl ?_
          refine lv_iadd hx hb dX4_looks_180 ?_
          have hi98 := hF
          refine va_iast hx hb hK hP hD hS 1 0 rfl rfl hi98 dX4_looks_181 (fun H locs hP hD hS => ?_)
          have hP : va_P D vwCl (mnW cI am sv rf ln hs (upd g97 ((479 + (4 * (g 478))) + 3).toNatClampNeg ((g97 14) + (g97 1)))) H := hP
          have hD : va_D A (mnW cI am sv rf ln hs (upd g97 ((479 + (4 * (g 478))) + 3).toNatClampNeg ((g97 14) + (g97 1)))) := hD
          generalize eg99 : upd g97 ((479 + (4 * (g 478))) + 3).toNatClampNeg ((g97 14) + (g97 1)) = g99 at hR hP hD
          replace hR := bnd_e hR
          refine lv_aload_n hx hb dX4_looks_182 rfl (lv_at hl 3 rfl) ?_
          refine va_get (D := D) (ci := 4) (v := .ref (am 1)) (C := RX4) (T := TX4) (N := 8) hx hb hts hinX4 hown hK hP 0 rfl rfl 0 (by decide) q1 (fun _ h9 => h9) rfl dX4_looks_183 ?_
          refine lv_sipush (v := 478) hx hb dX4_looks_186 (by decide) ?_
          refine lv_dup2_11 hx hb dX4_looks_189 rfl rfl ?_
          refine va_iald hx hb hK hP 1 0 rfl rfl (kin_lit (j := 478) (n := 1203) (by decide) (by decide)) dX4_looks_190 ?_
          refine kw_top (v := .int (g99 478)) rfl ?_
          refine lv_iconst (v := 1) hx hb dX4_looks_191 (by decide) ?_
          refine lv_iadd hx hb dX4_looks_192 ?_
          refine va_iast hx hb hK hP hD hS 1 0 rfl rfl (kin_lit (j := 478) (n := 1203) (by decide) (by decide)) dX4_looks_193 (fun H locs hP hD hS => ?_)
          have hP : va_P D vwCl (mnW cI am sv rf ln hs (upd g99 478 ((g99 478) + 1))) H := hP
          have hD : va_D A (mnW cI am sv rf ln hs (upd g99 478 ((g99 478) + 1))) := hD
          generalize eg100 : upd g99 478 ((g99 478) + 1) = g100 at hR hP hD
          replace hR := bnd_e hR
          subst hR
          exact krV hx hb hr hlk hP hD hS dX4_looks_194 rfl
  · rw [if_pos c1] at hR hF
    refine lv_aload_n hx hb dX4_looks_5 rfl (lv_at hl 0 rfl) ?_
    refine va_get (D := D) (ci := 4) (v := .ref (am 1)) (C := RX4) (T := TX4) (N := 8) hx hb hts hinX4 hown hK hP 0 rfl rfl 0 (by decide) q1 (fun _ h9 => h9) rfl dX4_looks_6 ?_
    refine lv_iload_n hx hb dX4_looks_9 rfl (lv_at hl 1 rfl) ?_
    refine lv_iconst (v := 2) hx hb dX4_looks_10 (by decide) ?_
    refine kcsI (As := [.int x1, .int 2]) (rest := [.ref (am 1)]) E.1 (cx4_entry E x1 2) hX (va_cwS 2 hts gX4_looks_X4_entry rfl rfl rfl hdX4_entry.2 ⟨Nat.le_of_ble_eq_true rfl, Nat.le_of_ble_eq_true rfl⟩) hKs hP hD hS hA _ _ (kw_nil _) (kw_nil _).symm rfl rfl hl.1 (Nat.le_of_ble_eq_true rfl) dX4_looks_11 ⟨Nat.zero_le _, Nat.zero_le _⟩ (fun H locs hP hD hS => ?_)
    obtain ⟨hi2, hF⟩ := hF
    refine va_iald hx hb hK hP 1 0 rfl rfl hi2 dX4_looks_14 ?_
    refine lv_iconst (v := 3) hx hb dX4_looks_15 (by decide) ?_
    refine lv_icmp_eq (tgt := 20) hx hb dX4_looks_16 (by decide) (fun c3 => ?_) (fun c3 => ?_)
    · rw [if_pos c3] at hR hF
      refine lv_aload_n hx hb dX4_looks_20 rfl (lv_at hl 0 rfl) ?_
      refine lv_aload_n hx hb dX4_looks_21 rfl (lv_at hl 0 rfl) ?_
      refine va_get (D := D) (ci := 4) (v := .ref (am 1)) (C := RX4) (T := TX4) (N := 8) hx hb hts hinX4 hown hK hP 0 rfl rfl 0 (by decide) q1 (fun _ h9 => h9) rfl dX4_looks_22 ?_
      refine lv_bipush (v := 8) hx hb dX4_looks_25 (by decide) ?_
      refine lv_iload_n hx hb dX4_looks_27 rfl (lv_at hl 2 rfl) ?_
      refine lv_iadd hx hb dX4_looks_28 ?_
      obtain ⟨hi4, hF⟩ := hF
      refine va_iald hx hb hK hP 1 0 rfl rfl hi4 dX4_looks_29 ?_
      obtain ⟨hs73, hF⟩ := hF
      refine kcI (ci := 4) (q0 := 0) (As := [.int (g (8 + x2).toNatClampNeg)]) (rest := []) E.1 (cx4_itemAt E am sv rf ln hs g (g (8 + x2).toNatClampNeg) hs73) hX (cwV 1 hts gX4_looks_X4_itemAt rfl rfl rfl hdX4_itemAt ⟨Nat.le_of_ble_eq_true rfl, Nat.le_of_ble_eq_true rfl⟩) hKs hK hP hD hS hA _ _ (kw_self _) (kw_self _).symm rfl rfl rfl rfl hl.1 (Nat.le_of_ble_eq_true rfl) dX4_looks_30 ⟨Nat.zero_le _, Nat.zero_le _⟩ (fun H locs hP hD hS => ?_)
      generalize ev5 : fx4_itemAt g (g (8 + x2).toNatClampNeg) = v5 at hR hF ⊢
      replace hR := bnd_e hR
      replace hF := bnd_p hF
      refine lv_istore_n (lv' := [(3, .int v5), (0, .ref (am 0)), (1, .int x1), (2, .int x2)]) hx hb dX4_looks_33 rfl hl (by decide) rfl (fun ls hl => ?_)
      refine lv_iconst (v := 2) hx hb dX4_looks_34 (by decide) ?_
      refine lv_istore (lv' := [(4, .int 2), (3, .int v5), (0, .ref (am 0)), (1, .int x1), (2, .int x2)]) hx hb dX4_looks_35 hl (by decide) rfl (fun ls hl => ?_)
      refine lv_iload_n hx hb dX4_looks_37 rfl (lv_at hl 1 rfl) ?_
      refine lv_iconst (v := (-1)) hx hb dX4_looks_38 (by decide) ?_
      refine lv_icmp_eq (tgt := 105) hx hb dX4_looks_39 (by decide) (fun c6 => ?_) (fun c6 => ?_)
      · rw [if_pos c6] at hR hF
        refine lv_sipush (v := 479) hx hb dX4_looks_105 (by decide) ?_
        refine lv_iconst (v := 4) hx hb dX4_looks_108 (by decide) ?_
        refine lv_aload_n hx hb dX4_looks_109 rfl (lv_at hl 2 rfl) ?_
        refine va_get (D := D) (ci := 4) (v := .ref (am 1)) (C := RX4) (T := TX4) (N := 8) hx hb hts hinX4 hown hK hP 0 rfl rfl 0 (by decide) q1 (fun _ h9 => h9) rfl dX4_looks_110 ?_
        refine lv_sipush (v := 478) hx hb dX4_looks_113 (by decide) ?_
        refine va_iald hx hb hK hP 1 0 rfl rfl (kin_lit (j := 478) (n := 1203) (by decide) (by decide)) dX4_looks_116 ?_
        refine kw_top (v := .int (g 478)) rfl ?_
        refine lv_imul hx hb dX4_looks_117 ?_
        refine lv_iadd hx hb dX4_looks_118 ?_
        refine lv_istore (lv' := [(5, .int (479 + (4 * (g 478)))), (4, .int 2), (3, .int v5), (0, .ref (am 0)), (1, .int x1), (2, .int x2)]) hx hb dX4_looks_119 hl (by decide) rfl (fun ls hl => ?_)
        refine lv_aload_n hx hb dX4_looks_121 rfl (lv_at hl 3 rfl) ?_
        refine va_get (D := D) (ci := 4) (v := .ref (am 1)) (C := RX4) (T := TX4) (N := 8) hx hb hts hinX4 hown hK hP 0 rfl rfl 0 (by decide) q1 (fun _ h9 => h9) rfl dX4_looks_122 ?_
        refine lv_iload hx hb dX4_looks_125 (lv_at hl 0 rfl) ?_
        refine lv_aload_n hx hb dX4_looks_127 rfl (lv_at hl 3 rfl) ?_
        refine va_get (D := D) (ci := 4) (v := .ref (am 1)) (C := RX4) (T := TX4) (N := 8) hx hb hts hinX4 hown hK hP 0 rfl rfl 0 (by decide) q1 (fun _ h9 => h9) rfl dX4_looks_128 ?_
        refine lv_iload_n hx hb dX4_looks_131 rfl (lv_at hl 4 rfl) ?_
        refine lv_iconst (v := 0) hx hb dX4_looks_132 (by decide) ?_
        refine kcsI (As := [.int x1, .int 0]) (rest := [.ref (am 1), .int (479 + (4 * (g 478))), .ref (am 1)]) E.1 (cx4_entry E x1 0) hX (va_cwS 2 hts gX4_looks_X4_entry rfl rfl rfl hdX4_entry.2 ⟨Nat.le_of_ble_eq_true rfl, Nat.le_of_ble_eq_true rfl⟩) hKs hP hD hS hA _ _ (kw_nil _) (kw_nil _).symm rfl rfl hl.1 (Nat.le_of_ble_eq_true rfl) dX4_looks_133 ⟨Nat.zero_le _, Nat.zero_le _⟩ (fun H locs hP hD hS => ?_)
        obtain ⟨hi7, hF⟩ := hF
        refine va_iald hx hb hK hP 1 0 rfl rfl hi7 dX4_looks_136 ?_
        obtain ⟨hi8, hF⟩ := hF
        refine va_iast hx hb hK hP hD hS 1 0 rfl rfl hi8 dX4_looks_137 (fun H locs hP hD hS => ?_)
        have hP : va_P D vwCl (mnW cI am sv rf ln hs (upd g (479 + (4 * (g 478))).toNatClampNeg (g (fx4_entry x1 0).toNatClampNeg))) H := hP
        have hD : va_D A (mnW cI am sv rf ln hs (upd g (479 + (4 * (g 478))).toNatClampNeg (g (fx4_entry x1 0).toNatClampNeg))) := hD
        generalize eg9 : upd g (479 + (4 * (g 478))).toNatClampNeg (g (fx4_entry x1 0).toNatClampNeg) = g9 at hR hP hD hF
        replace hR := bnd_e hR
        replace hF := bnd_p hF
        refine lv_aload_n hx hb dX4_looks_138 rfl (lv_at hl 3 rfl) ?_
        refine va_get (D := D) (ci := 4) (v := .ref (am 1)) (C := RX4) (T := TX4) (N := 8) hx hb hts hinX4 hown hK hP 0 rfl rfl 0 (by decide) q1 (fun _ h9 => h9) rfl dX4_looks_139 ?_
        refine lv_iload hx hb dX4_looks_142 (lv_at hl 0 rfl) ?_
        refine lv_iconst (v := 1) hx hb dX4_looks_144 (by decide) ?_
        refine lv_iadd hx hb dX4_looks_145 ?_
        refine lv_iload_n hx hb dX4_looks_146 rfl (lv_at hl 5 rfl) ?_
        obtain ⟨hi10, hF⟩ := hF
        refine va_iast hx hb hK hP hD hS 1 0 rfl rfl hi10 dX4_looks_147 (fun H locs hP hD hS => ?_)
        have hP : va_P D vwCl (mnW cI am sv rf ln hs (upd g9 ((479 + (4 * (g 478))) + 1).toNatClampNeg x2)) H := hP
        have hD : va_D A (mnW cI am sv rf ln hs (upd g9 ((479 + (4 * (g 478))) + 1).toNatClampNeg x2)) := hD
        generalize eg11 : upd g9 ((479 + (4 * (g 478))) + 1).toNatClampNeg x2 = g11 at hR hP hD hF
        replace hR := bnd_e hR
        replace hF := bnd_p hF
        refine lv_aload_n hx hb dX4_looks_148 rfl (lv_at hl 3 rfl) ?_
        refine va_get (D := D) (ci := 4) (v := .ref (am 1)) (C := RX4) (T := TX4) (N := 8) hx hb hts hinX4 hown hK hP 0 rfl rfl 0 (by decide) q1 (fun _ h9 => h9) rfl dX4_looks_149 ?_
        refine lv_iload hx hb dX4_looks_152 (lv_at hl 0 rfl) ?_
        refine lv_iconst (v := 2) hx hb dX4_looks_154 (by decide) ?_
        refine lv_iadd hx hb dX4_looks_155 ?_
        refine lv_iload hx hb dX4_looks_156 (lv_at hl 1 rfl) ?_
        obtain ⟨hi12, hF⟩ := hF
        refine va_iast hx hb hK hP hD hS 1 0 rfl rfl hi12 dX4_looks_158 (fun H locs hP hD hS => ?_)
        have hP : va_P D vwCl (mnW cI am sv rf ln hs (upd g11 ((479 + (4 * (g 478))) + 2).toNatClampNeg 2)) H := hP
        have hD : va_D A (mnW cI am sv rf ln hs (upd g11 ((479 + (4 * (g 478))) + 2).toNatClampNeg 2)) := hD
        generalize eg13 : upd g11 ((479 + (4 * (g 478))) + 2).toNatClampNeg 2 = g13 at hR hP hD hF
        replace hR := bnd_e hR
        replace hF := bnd_p hF
        refine lv_aload_n hx hb dX4_looks_159 rfl (lv_at hl 3 rfl) ?_
        refine va_get (D := D) (ci := 4) (v := .ref (am 1)) (C := RX4) (T := TX4) (N := 8) hx hb hts hinX4 hown hK hP 0 rfl rfl 0 (by decide) q1 (fun _ h9 => h9) rfl dX4_looks_160 ?_
        refine lv_iload hx hb dX4_looks_163 (lv_at hl 0 rfl) ?_
        refine lv_iconst (v := 3) hx hb dX4_looks_165 (by decide) ?_
        refine lv_iadd hx hb dX4_looks_166 ?_
        refine lv_aload_n hx hb dX4_looks_167 rfl (lv_at hl 3 rfl) ?_
        refine va_get (D := D) (ci := 4) (v := .ref (am 1)) (C := RX4) (T := TX4) (N := 8) hx hb hts hinX4 hown hK hP 0 rfl rfl 0 (by decide) q1 (fun _ h9 => h9) rfl dX4_looks_168 ?_
        refine lv_bipush (v := 14) hx hb dX4_looks_171 (by decide) ?_
        refine va_iald hx hb hK hP 1 0 rfl rfl (kin_lit (j := 14) (n := 1203) (by decide) (by decide)) dX4_looks_173 ?_
        refine kw_top (v := .int (g13 14)) rfl ?_
        refine lv_aload_n hx hb dX4_looks_174 rfl (lv_at hl 3 rfl) ?_
        refine va_get (D := D) (ci := 4) (v := .ref (am 1)) (C := RX4) (T := TX4) (N := 8) hx hb hts hinX4 hown hK hP 0 rfl rfl 0 (by decide) q1 (fun _ h9 => h9) rfl dX4_looks_175 ?_
        refine lv_iconst (v := 1) hx hb dX4_looks_178 (by decide) ?_
        refine va_iald hx hb hK hP 1 0 rfl rfl (kin_lit (j := 1) (n := 1203) (by decide) (by decide)) dX4_looks_179 ?_
        refine kw_top (v := .int (g13 1)) rfl ?_
        refine lv_iadd hx hb dX4_looks_180 ?_
        have hi14 := hF
        refine va_iast hx hb hK hP hD hS 1 0 rfl rfl hi14 dX4_looks_181 (fun H locs hP hD hS => ?_)
        have hP : va_P D vwCl (mnW cI am sv rf ln hs (upd g13 ((479 + (4 * (g 478))) + 3).toNatClampNeg ((g13 14) + (g13 1)))) H := hP
        have hD : va_D A (mnW cI am sv rf ln hs (upd g13 ((479 + (4 * (g 478))) + 3).toNatClampNeg ((g13 14) + (g13 1)))) := hD
        generalize eg15 : upd g13 ((479 + (4 * (g 478))) + 3).toNatClampNeg ((g13 14) + (g13 1)) = g15 at hR hP hD
        replace hR := bnd_e hR
        refine lv_aload_n hx hb dX4_looks_182 rfl (lv_at hl 3 rfl) ?_
        refine va_get (D := D) (ci := 4) (v := .ref (am 1)) (C := RX4) (T := TX4) (N := 8) hx hb hts hinX4 hown hK hP 0 rfl rfl 0 (by decide) q1 (fun _ h9 => h9) rfl dX4_looks_183 ?_
        refine lv_sipush (v := 478) hx hb dX4_looks_186 (by decide) ?_
        refine lv_dup2_11 hx hb dX4_looks_189 rfl rfl ?_
        refine va_iald hx hb hK hP 1 0 rfl rfl (kin_lit (j := 478) (n := 1203) (by decide) (by decide)) dX4_looks_190 ?_
        refine kw_top (v := .int (g15 478)) rfl ?_
        refine lv_iconst (v := 1) hx hb dX4_looks_191 (by decide) ?_
        refine lv_iadd hx hb dX4_looks_192 ?_
        refine va_iast hx hb hK hP hD hS 1 0 rfl rfl (kin_lit (j := 478) (n := 1203) (by decide) (by decide)) dX4_looks_193 (fun H locs hP hD hS => ?_)
        have hP : va_P D vwCl (mnW cI am sv rf ln hs (upd g15 478 ((g15 478) + 1))) H := hP
        have hD : va_D A (mnW cI am sv rf ln hs (upd g15 478 ((g15 478) + 1))) := hD
        generalize eg16 : upd g15 478 ((g15 478) + 1) = g16 at hR hP hD
        replace hR := bnd_e hR
        subst hR
        exact krV hx hb hr hlk hP hD hS dX4_looks_194 rfl
      · rw [if_neg c6] at hR hF
        refine lv_aload_n hx hb dX4_looks_42 rfl (lv_at hl 2 rfl) ?_
        refine va_get (D := D) (ci := 4) (v := .ref (am 1)) (C := RX4) (T := TX4) (N := 8) hx hb hts hinX4 hown hK hP 0 rfl rfl 0 (by decide) q1 (fun _ h9 => h9) rfl dX4_looks_43 ?_
        refine lv_iload_n hx hb dX4_looks_46 rfl (lv_at hl 1 rfl) ?_
        refine lv_iconst (v := 3) hx hb dX4_looks_47 (by decide) ?_
        refine kcsI (As := [.int v5, .int 3]) (rest := [.ref (am 1)]) E.1 (cx4_thing E v5 3) hX (va_cwS 2 hts gX4_looks_X4_thing rfl rfl rfl hdX4_thing.2 ⟨Nat.le_of_ble_eq_true rfl, Nat.le_of_ble_eq_true rfl⟩) hKs hP hD hS hA _ _ (kw_nil _) (kw_nil _).symm rfl rfl hl.1 (Nat.le_of_ble_eq_true rfl) dX4_looks_48 ⟨Nat.zero_le _, Nat.zero_le _⟩ (fun H locs hP hD hS => ?_)
        obtain ⟨hi17, hF⟩ := hF
        refine va_iald hx hb hK hP 1 0 rfl rfl hi17 dX4_looks_51 ?_
        refine lv_iconst (v := 1) hx hb dX4_looks_52 (by decide) ?_
        refine lv_icmp_ne (tgt := 105) hx hb dX4_looks_53 (by decide) (fun c18 => ?_) (fun c18 => ?_)
        · rw [if_neg c18] at hR hF
          refine lv_sipush (v := 479) hx hb dX4_looks_105 (by decide) ?_
          refine lv_iconst (v := 4) hx hb dX4_looks_108 (by decide) ?_
          refine lv_aload_n hx hb dX4_looks_109 rfl (lv_at hl 2 rfl) ?_
          refine va_get (D := D) (ci := 4) (v := .ref (am 1)) (C := RX4) (T := TX4) (N := 8) hx hb hts hinX4 hown hK hP 0 rfl rfl 0 (by decide) q1 (fun _ h9 => h9) rfl dX4_looks_110 ?_
          refine lv_sipush (v := 478) hx hb dX4_looks_113 (by decide) ?_
          refine va_iald hx hb hK hP 1 0 rfl rfl (kin_lit (j := 478) (n := 1203) (by decide) (by decide)) dX4_looks_116 ?_
          refine kw_top (v := .int (g 478)) rfl ?_
          refine lv_imul hx hb dX4_looks_117 ?_
          refine lv_iadd hx hb dX4_looks_118 ?_
          refine lv_istore (lv' := [(5, .int (479 + (4 * (g 478)))), (4, .int 2), (3, .int v5), (0, .ref (am 0)), (1, .int x1), (2, .int x2)]) hx hb dX4_looks_119 hl (by decide) rfl (fun ls hl => ?_)
          refine lv_aload_n hx hb dX4_looks_121 rfl (lv_at hl 3 rfl) ?_
          refine va_get (D := D) (ci := 4) (v := .ref (am 1)) (C := RX4) (T := TX4) (N := 8) hx hb hts hinX4 hown hK hP 0 rfl rfl 0 (by decide) q1 (fun _ h9 => h9) rfl dX4_looks_122 ?_
          refine lv_iload hx hb dX4_looks_125 (lv_at hl 0 rfl) ?_
          refine lv_aload_n hx hb dX4_looks_127 rfl (lv_at hl 3 rfl) ?_
          refine va_get (D := D) (ci := 4) (v := .ref (am 1)) (C := RX4) (T := TX4) (N := 8) hx hb hts hinX4 hown hK hP 0 rfl rfl 0 (by decide) q1 (fun _ h9 => h9) rfl dX4_looks_128 ?_
          refine lv_iload_n hx hb dX4_looks_131 rfl (lv_at hl 4 rfl) ?_
          refine lv_iconst (v := 0) hx hb dX4_looks_132 (by decide) ?_
          refine kcsI (As := [.int x1, .int 0]) (rest := [.ref (am 1), .int (479 + (4 * (g 478))), .ref (am 1)]) E.1 (cx4_entry E x1 0) hX (va_cwS 2 hts gX4_looks_X4_entry rfl rfl rfl hdX4_entry.2 ⟨Nat.le_of_ble_eq_true rfl, Nat.le_of_ble_eq_true rfl⟩) hKs hP hD hS hA _ _ (kw_nil _) (kw_nil _).symm rfl rfl hl.1 (Nat.le_of_ble_eq_true rfl) dX4_looks_133 ⟨Nat.zero_le _, Nat.zero_le _⟩ (fun H locs hP hD hS => ?_)
          obtain ⟨hi63, hF⟩ := hF
          refine va_iald hx hb hK hP 1 0 rfl rfl hi63 dX4_looks_136 ?_
          obtain ⟨hi64, hF⟩ := hF
          refine va_iast hx hb hK hP hD hS 1 0 rfl rfl hi64 dX4_looks_137 (fun H locs hP hD hS => ?_)
          have hP : va_P D vwCl (mnW cI am sv rf ln hs (upd g (479 + (4 * (g 478))).toNatClampNeg (g (fx4_entry x1 0).toNatClampNeg))) H := hP
          have hD : va_D A (mnW cI am sv rf ln hs (upd g (479 + (4 * (g 478))).toNatClampNeg (g (fx4_entry x1 0).toNatClampNeg))) := hD
          generalize eg65 : upd g (479 + (4 * (g 478))).toNatClampNeg (g (fx4_entry x1 0).toNatClampNeg) = g65 at hR hP hD hF
          replace hR := bnd_e hR
          replace hF := bnd_p hF
          refine lv_aload_n hx hb dX4_looks_138 rfl (lv_at hl 3 rfl) ?_
          refine va_get (D := D) (ci := 4) (v := .ref (am 1)) (C := RX4) (T := TX4) (N := 8) hx hb hts hinX4 hown hK hP 0 rfl rfl 0 (by decide) q1 (fun _ h9 => h9) rfl dX4_looks_139 ?_
          refine lv_iload hx hb dX4_looks_142 (lv_at hl 0 rfl) ?_
          refine lv_iconst (v := 1) hx hb dX4_looks_144 (by decide) ?_
          refine lv_iadd hx hb dX4_looks_145 ?_
          refine lv_iload_n hx hb dX4_looks_146 rfl (lv_at hl 5 rfl) ?_
          obtain ⟨hi66, hF⟩ := hF
          refine va_iast hx hb hK hP hD hS 1 0 rfl rfl hi66 dX4_looks_147 (fun H locs hP hD hS => ?_)
          have hP : va_P D vwCl (mnW cI am sv rf ln hs (upd g65 ((479 + (4 * (g 478))) + 1).toNatClampNeg x2)) H := hP
          have hD : va_D A (mnW cI am sv rf ln hs (upd g65 ((479 + (4 * (g 478))) + 1).toNatClampNeg x2)) := hD
          generalize eg67 : upd g65 ((479 + (4 * (g 478))) + 1).toNatClampNeg x2 = g67 at hR hP hD hF
          replace hR := bnd_e hR
          replace hF := bnd_p hF
          refine lv_aload_n hx hb dX4_looks_148 rfl (lv_at hl 3 rfl) ?_
          refine va_get (D := D) (ci := 4) (v := .ref (am 1)) (C := RX4) (T := TX4) (N := 8) hx hb hts hinX4 hown hK hP 0 rfl rfl 0 (by decide) q1 (fun _ h9 => h9) rfl dX4_looks_149 ?_
          refine lv_iload hx hb dX4_looks_152 (lv_at hl 0 rfl) ?_
          refine lv_iconst (v := 2) hx hb dX4_looks_154 (by decide) ?_
          refine lv_iadd hx hb dX4_looks_155 ?_
          refine lv_iload hx hb dX4_looks_156 (lv_at hl 1 rfl) ?_
          obtain ⟨hi68, hF⟩ := hF
          refine va_iast hx hb hK hP hD hS 1 0 rfl rfl hi68 dX4_looks_158 (fun H locs hP hD hS => ?_)
          have hP : va_P D vwCl (mnW cI am sv rf ln hs (upd g67 ((479 + (4 * (g 478))) + 2).toNatClampNeg 2)) H := hP
          have hD : va_D A (mnW cI am sv rf ln hs (upd g67 ((479 + (4 * (g 478))) + 2).toNatClampNeg 2)) := hD
          generalize eg69 : upd g67 ((479 + (4 * (g 478))) + 2).toNatClampNeg 2 = g69 at hR hP hD hF
          replace hR := bnd_e hR
          replace hF := bnd_p hF
          refine lv_aload_n hx hb dX4_looks_159 rfl (lv_at hl 3 rfl) ?_
          refine va_get (D := D) (ci := 4) (v := .ref (am 1)) (C := RX4) (T := TX4) (N := 8) hx hb hts hinX4 hown hK hP 0 rfl rfl 0 (by decide) q1 (fun _ h9 => h9) rfl dX4_looks_160 ?_
          refine lv_iload hx hb dX4_looks_163 (lv_at hl 0 rfl) ?_
          refine lv_iconst (v := 3) hx hb dX4_looks_165 (by decide) ?_
          refine lv_iadd hx hb dX4_looks_166 ?_
          refine lv_aload_n hx hb dX4_looks_167 rfl (lv_at hl 3 rfl) ?_
          refine va_get (D := D) (ci := 4) (v := .ref (am 1)) (C := RX4) (T := TX4) (N := 8) hx hb hts hinX4 hown hK hP 0 rfl rfl 0 (by decide) q1 (fun _ h9 => h9) rfl dX4_looks_168 ?_
          refine lv_bipush (v := 14) hx hb dX4_looks_171 (by decide) ?_
          refine va_iald hx hb hK hP 1 0 rfl rfl (kin_lit (j := 14) (n := 1203) (by decide) (by decide)) dX4_looks_173 ?_
          refine kw_top (v := .int (g69 14)) rfl ?_
          refine lv_aload_n hx hb dX4_looks_174 rfl (lv_at hl 3 rfl) ?_
          refine va_get (D := D) (ci := 4) (v := .ref (am 1)) (C := RX4) (T := TX4) (N := 8) hx hb hts hinX4 hown hK hP 0 rfl rfl 0 (by decide) q1 (fun _ h9 => h9) rfl dX4_looks_175 ?_
          refine lv_iconst (v := 1) hx hb dX4_looks_178 (by decide) ?_
          refine va_iald hx hb hK hP 1 0 rfl rfl (kin_lit (j := 1) (n := 1203) (by decide) (by decide)) dX4_looks_179 ?_
          refine kw_top (v := .int (g69 1)) rfl ?_
          refine lv_iadd hx hb dX4_looks_180 ?_
          have hi70 := hF
          refine va_iast hx hb hK hP hD hS 1 0 rfl rfl hi70 dX4_looks_181 (fun H locs hP hD hS => ?_)
          have hP : va_P D vwCl (mnW cI am sv rf ln hs (upd g69 ((479 + (4 * (g 478))) + 3).toNatClampNeg ((g69 14) + (g69 1)))) H := hP
          have hD : va_D A (mnW cI am sv rf ln hs (upd g69 ((479 + (4 * (g 478))) + 3).toNatClampNeg ((g69 14) + (g69 1)))) := hD
          generalize eg71 : upd g69 ((479 + (4 * (g 478))) + 3).toNatClampNeg ((g69 14) + (g69 1)) = g71 at hR hP hD
          replace hR := bnd_e hR
          refine lv_aload_n hx hb dX4_looks_182 rfl (lv_at hl 3 rfl) ?_
          refine va_get (D := D) (ci := 4) (v := .ref (am 1)) (C := RX4) (T := TX4) (N := 8) hx hb hts hinX4 hown hK hP 0 rfl rfl 0 (by decide) q1 (fun _ h9 => h9) rfl dX4_looks_183 ?_
          refine lv_sipush (v := 478) hx hb dX4_looks_186 (by decide) ?_
          refine lv_dup2_11 hx hb dX4_looks_189 rfl rfl ?_
          refine va_iald hx hb hK hP 1 0 rfl rfl (kin_lit (j := 478) (n := 1203) (by decide) (by decide)) dX4_looks_190 ?_
          refine kw_top (v := .int (g71 478)) rfl ?_
          refine lv_iconst (v := 1) hx hb dX4_looks_191 (by decide) ?_
          refine lv_iadd hx hb dX4_looks_192 ?_
          refine va_iast hx hb hK hP hD hS 1 0 rfl rfl (kin_lit (j := 478) (n := 1203) (by decide) (by decide)) dX4_looks_193 (fun H locs hP hD hS => ?_)
          have hP : va_P D vwCl (mnW cI am sv rf ln hs (upd g71 478 ((g71 478) + 1))) H := hP
          have hD : va_D A (mnW cI am sv rf ln hs (upd g71 478 ((g71 478) + 1))) := hD
          generalize eg72 : upd g71 478 ((g71 478) + 1) = g72 at hR hP hD
          replace hR := bnd_e hR
          subst hR
          exact krV hx hb hr hlk hP hD hS dX4_looks_194 rfl
        · rw [if_pos c18] at hR hF
          refine lv_aload_n hx hb dX4_looks_56 rfl (lv_at hl 2 rfl) ?_
          refine va_get (D := D) (ci := 4) (v := .ref (am 1)) (C := RX4) (T := TX4) (N := 8) hx hb hts hinX4 hown hK hP 0 rfl rfl 0 (by decide) q1 (fun _ h9 => h9) rfl dX4_looks_57 ?_
          refine lv_iload_n hx hb dX4_looks_60 rfl (lv_at hl 1 rfl) ?_
          refine lv_iconst (v := 2) hx hb dX4_looks_61 (by decide) ?_
          refine kcsI (As := [.int v5, .int 2]) (rest := [.ref (am 1)]) E.1 (cx4_thing E v5 2) hX (va_cwS 2 hts gX4_looks_X4_thing rfl rfl rfl hdX4_thing.2 ⟨Nat.le_of_ble_eq_true rfl, Nat.le_of_ble_eq_true rfl⟩) hKs hP hD hS hA _ _ (kw_nil _) (kw_nil _).symm rfl rfl hl.1 (Nat.le_of_ble_eq_true rfl) dX4_looks_62 ⟨Nat.zero_le _, Nat.zero_le _⟩ (fun H locs hP hD hS => ?_)
          obtain ⟨hi19, hF⟩ := hF
          refine va_iald hx hb hK hP 1 0 rfl rfl hi19 dX4_looks_65 ?_
          refine lv_istore (lv' := [(5, .int (g (fx4_thing v5 2).toNatClampNeg)), (4, .int 2), (3, .int v5), (0, .ref (am 0)), (1, .int x1), (2, .int x2)]) hx hb dX4_looks_66 hl (by decide) rfl (fun ls hl => ?_)
          refine lv_iload hx hb dX4_looks_68 (lv_at hl 0 rfl) ?_
          refine lv_if_ne (tgt := 77) hx hb dX4_looks_70 (by decide) (fun c20 => ?_) (fun c20 => ?_)
          · rw [if_neg c20] at hR hF
            refine lv_iload hx hb dX4_looks_77 (lv_at hl 0 rfl) ?_
            refine lv_iconst (v := 1) hx hb dX4_looks_79 (by decide) ?_
            refine lv_icmp_ne (tgt := 87) hx hb dX4_looks_80 (by decide) (fun c31 => ?_) (fun c31 => ?_)
            · rw [if_neg c31] at hR hF
              refine lv_iload hx hb dX4_looks_87 (lv_at hl 0 rfl) ?_
              refine lv_iconst (v := 2) hx hb dX4_looks_89 (by decide) ?_
              refine lv_icmp_ne (tgt := 102) hx hb dX4_looks_90 (by decide) (fun c42 => ?_) (fun c42 => ?_)
              · rw [if_neg c42] at hR hF
                refine lv_iconst (v := 3) hx hb dX4_looks_102 (by decide) ?_
                refine lv_istore (lv' := [(4, .int 3), (5, .int (g (fx4_thing v5 2).toNatClampNeg)), (3, .int v5), (0, .ref (am 0)), (1, .int x1), (2, .int x2)]) hx hb dX4_looks_103 hl (by decide) rfl (fun ls hl => ?_)
                refine lv_sipush (v := 479) hx hb dX4_looks_105 (by decide) ?_
                refine lv_iconst (v := 4) hx hb dX4_looks_108 (by decide) ?_
                refine lv_aload_n hx hb dX4_looks_109 rfl (lv_at hl 3 rfl) ?_
                refine va_get (D := D) (ci := 4) (v := .ref (am 1)) (C := RX4) (T := TX4) (N := 8) hx hb hts hinX4 hown hK hP 0 rfl rfl 0 (by decide) q1 (fun _ h9 => h9) rfl dX4_looks_110 ?_
                refine lv_sipush (v := 478) hx hb dX4_looks_113 (by decide) ?_
                refine va_iald hx hb hK hP 1 0 rfl rfl (kin_lit (j := 478) (n := 1203) (by decide) (by decide)) dX4_looks_116 ?_
                refine kw_top (v := .int (g 478)) rfl ?_
                refine lv_imul hx hb dX4_looks_117 ?_
                refine lv_iadd hx hb dX4_looks_118 ?_
                refine lv_istore (lv' := [(5, .int (479 + (4 * (g 478)))), (4, .int 3), (3, .int v5), (0, .ref (am 0)), (1, .int x1), (2, .int x2)]) hx hb dX4_looks_119 hl (by decide) rfl (fun ls hl => ?_)
                refine lv_aload_n hx hb dX4_looks_121 rfl (lv_at hl 3 rfl) ?_
                refine va_get (D := D) (ci := 4) (v := .ref (am 1)) (C := RX4) (T := TX4) (N := 8) hx hb hts hinX4 hown hK hP 0 rfl rfl 0 (by decide) q1 (fun _ h9 => h9) rfl dX4_looks_122 ?_
                refine lv_iload hx hb dX4_looks_125 (lv_at hl 0 rfl) ?_
                refine lv_aload_n hx hb dX4_looks_127 rfl (lv_at hl 3 rfl) ?_
                refine va_get (D := D) (ci := 4) (v := .ref (am 1)) (C := RX4) (T := TX4) (N := 8) hx hb hts hinX4 hown hK hP 0 rfl rfl 0 (by decide) q1 (fun _ h9 => h9) rfl dX4_looks_128 ?_
                refine lv_iload_n hx hb dX4_looks_131 rfl (lv_at hl 4 rfl) ?_
                refine lv_iconst (v := 0) hx hb dX4_looks_132 (by decide) ?_
                refine kcsI (As := [.int x1, .int 0]) (rest := [.ref (am 1), .int (479 + (4 * (g 478))), .ref (am 1)]) E.1 (cx4_entry E x1 0) hX (va_cwS 2 hts gX4_looks_X4_entry rfl rfl rfl hdX4_entry.2 ⟨Nat.le_of_ble_eq_true rfl, Nat.le_of_ble_eq_true rfl⟩) hKs hP hD hS hA _ _ (kw_nil _) (kw_nil _).symm rfl rfl hl.1 (Nat.le_of_ble_eq_true rfl) dX4_looks_133 ⟨Nat.zero_le _, Nat.zero_le _⟩ (fun H locs hP hD hS => ?_)
                obtain ⟨hi53, hF⟩ := hF
                refine va_iald hx hb hK hP 1 0 rfl rfl hi53 dX4_looks_136 ?_
                obtain ⟨hi54, hF⟩ := hF
                refine va_iast hx hb hK hP hD hS 1 0 rfl rfl hi54 dX4_looks_137 (fun H locs hP hD hS => ?_)
                have hP : va_P D vwCl (mnW cI am sv rf ln hs (upd g (479 + (4 * (g 478))).toNatClampNeg (g (fx4_entry x1 0).toNatClampNeg))) H := hP
                have hD : va_D A (mnW cI am sv rf ln hs (upd g (479 + (4 * (g 478))).toNatClampNeg (g (fx4_entry x1 0).toNatClampNeg))) := hD
                generalize eg55 : upd g (479 + (4 * (g 478))).toNatClampNeg (g (fx4_entry x1 0).toNatClampNeg) = g55 at hR hP hD hF
                replace hR := bnd_e hR
                replace hF := bnd_p hF
                refine lv_aload_n hx hb dX4_looks_138 rfl (lv_at hl 3 rfl) ?_
                refine va_get (D := D) (ci := 4) (v := .ref (am 1)) (C := RX4) (T := TX4) (N := 8) hx hb hts hinX4 hown hK hP 0 rfl rfl 0 (by decide) q1 (fun _ h9 => h9) rfl dX4_looks_139 ?_
                refine lv_iload hx hb dX4_looks_142 (lv_at hl 0 rfl) ?_
                refine lv_iconst (v := 1) hx hb dX4_looks_144 (by decide) ?_
                refine lv_iadd hx hb dX4_looks_145 ?_
                refine lv_iload_n hx hb dX4_looks_146 rfl (lv_at hl 5 rfl) ?_
                obtain ⟨hi56, hF⟩ := hF
                refine va_iast hx hb hK hP hD hS 1 0 rfl rfl hi56 dX4_looks_147 (fun H locs hP hD hS => ?_)
                have hP : va_P D vwCl (mnW cI am sv rf ln hs (upd g55 ((479 + (4 * (g 478))) + 1).toNatClampNeg x2)) H := hP
                have hD : va_D A (mnW cI am sv rf ln hs (upd g55 ((479 + (4 * (g 478))) + 1).toNatClampNeg x2)) := hD
                generalize eg57 : upd g55 ((479 + (4 * (g 478))) + 1).toNatClampNeg x2 = g57 at hR hP hD hF
                replace hR := bnd_e hR
                replace hF := bnd_p hF
                refine lv_aload_n hx hb dX4_looks_148 rfl (lv_at hl 3 rfl) ?_
                refine va_get (D := D) (ci := 4) (v := .ref (am 1)) (C := RX4) (T := TX4) (N := 8) hx hb hts hinX4 hown hK hP 0 rfl rfl 0 (by decide) q1 (fun _ h9 => h9) rfl dX4_looks_149 ?_
                refine lv_iload hx hb dX4_looks_152 (lv_at hl 0 rfl) ?_
                refine lv_iconst (v := 2) hx hb dX4_looks_154 (by decide) ?_
                refine lv_iadd hx hb dX4_looks_155 ?_
                refine lv_iload hx hb dX4_looks_156 (lv_at hl 1 rfl) ?_
                obtain ⟨hi58, hF⟩ := hF
                refine va_iast hx hb hK hP hD hS 1 0 rfl rfl hi58 dX4_looks_158 (fun H locs hP hD hS => ?_)
                have hP : va_P D vwCl (mnW cI am sv rf ln hs (upd g57 ((479 + (4 * (g 478))) + 2).toNatClampNeg 3)) H := hP
                have hD : va_D A (mnW cI am sv rf ln hs (upd g57 ((479 + (4 * (g 478))) + 2).toNatClampNeg 3)) := hD
                generalize eg59 : upd g57 ((479 + (4 * (g 478))) + 2).toNatClampNeg 3 = g59 at hR hP hD hF
                replace hR := bnd_e hR
                replace hF := bnd_p hF
                refine lv_aload_n hx hb dX4_looks_159 rfl (lv_at hl 3 rfl) ?_
                refine va_get (D := D) (ci := 4) (v := .ref (am 1)) (C := RX4) (T := TX4) (N := 8) hx hb hts hinX4 hown hK hP 0 rfl rfl 0 (by decide) q1 (fun _ h9 => h9) rfl dX4_looks_160 ?_
                refine lv_iload hx hb dX4_looks_163 (lv_at hl 0 rfl) ?_
                refine lv_iconst (v := 3) hx hb dX4_looks_165 (by decide) ?_
                refine lv_iadd hx hb dX4_looks_166 ?_
                refine lv_aload_n hx hb dX4_looks_167 rfl (lv_at hl 3 rfl) ?_
                refine va_get (D := D) (ci := 4) (v := .ref (am 1)) (C := RX4) (T := TX4) (N := 8) hx hb hts hinX4 hown hK hP 0 rfl rfl 0 (by decide) q1 (fun _ h9 => h9) rfl dX4_looks_168 ?_
                refine lv_bipush (v := 14) hx hb dX4_looks_171 (by decide) ?_
                refine va_iald hx hb hK hP 1 0 rfl rfl (kin_lit (j := 14) (n := 1203) (by decide) (by decide)) dX4_looks_173 ?_
                refine kw_top (v := .int (g59 14)) rfl ?_
                refine lv_aload_n hx hb dX4_looks_174 rfl (lv_at hl 3 rfl) ?_
                refine va_get (D := D) (ci := 4) (v := .ref (am 1)) (C := RX4) (T := TX4) (N := 8) hx hb hts hinX4 hown hK hP 0 rfl rfl 0 (by decide) q1 (fun _ h9 => h9) rfl dX4_looks_175 ?_
                refine lv_iconst (v := 1) hx hb dX4_looks_178 (by decide) ?_
                refine va_iald hx hb hK hP 1 0 rfl rfl (kin_lit (j := 1) (n := 1203) (by decide) (by decide)) dX4_looks_179 ?_
                refine kw_top (v := .int (g59 1)) rfl ?_
                refine lv_iadd hx hb dX4_looks_180 ?_
                have hi60 := hF
                refine va_iast hx hb hK hP hD hS 1 0 rfl rfl hi60 dX4_looks_181 (fun H locs hP hD hS => ?_)
                have hP : va_P D vwCl (mnW cI am sv rf ln hs (upd g59 ((479 + (4 * (g 478))) + 3).toNatClampNeg ((g59 14) + (g59 1)))) H := hP
                have hD : va_D A (mnW cI am sv rf ln hs (upd g59 ((479 + (4 * (g 478))) + 3).toNatClampNeg ((g59 14) + (g59 1)))) := hD
                generalize eg61 : upd g59 ((479 + (4 * (g 478))) + 3).toNatClampNeg ((g59 14) + (g59 1)) = g61 at hR hP hD
                replace hR := bnd_e hR
                refine lv_aload_n hx hb dX4_looks_182 rfl (lv_at hl 3 rfl) ?_
                refine va_get (D := D) (ci := 4) (v := .ref (am 1)) (C := RX4) (T := TX4) (N := 8) hx hb hts hinX4 hown hK hP 0 rfl rfl 0 (by decide) q1 (fun _ h9 => h9) rfl dX4_looks_183 ?_
                refine lv_sipush (v := 478) hx hb dX4_looks_186 (by decide) ?_
                refine lv_dup2_11 hx hb dX4_looks_189 rfl rfl ?_
                refine va_iald hx hb hK hP 1 0 rfl rfl (kin_lit (j := 478) (n := 1203) (by decide) (by decide)) dX4_looks_190 ?_
                refine kw_top (v := .int (g61 478)) rfl ?_
                refine lv_iconst (v := 1) hx hb dX4_looks_191 (by decide) ?_
                refine lv_iadd hx hb dX4_looks_192 ?_
                refine va_iast hx hb hK hP hD hS 1 0 rfl rfl (kin_lit (j := 478) (n := 1203) (by decide) (by decide)) dX4_looks_193 (fun H locs hP hD hS => ?_)
                have hP : va_P D vwCl (mnW cI am sv rf ln hs (upd g61 478 ((g61 478) + 1))) H := hP
                have hD : va_D A (mnW cI am sv rf ln hs (upd g61 478 ((g61 478) + 1))) := hD
                generalize eg62 : upd g61 478 ((g61 478) + 1) = g62 at hR hP hD
                replace hR := bnd_e hR
                subst hR
                exact krV hx hb hr hlk hP hD hS dX4_looks_194 rfl
              · rw [if_pos c42] at hR hF
                refine lv_iload_n hx hb dX4_looks_93 rfl (lv_at hl 5 rfl) ?_
                refine lv_iconst (v := 1) hx hb dX4_looks_94 (by decide) ?_
                refine lv_icmp_ne (tgt := 102) hx hb dX4_looks_95 (by decide) (fun c => absurd c1 c) (fun _ => ?_)
                refine lv_iconst (v := 1) hx hb dX4_looks_98 (by decide) ?_
                refine lv_goto (tgt := 103) hx hb dX4_looks_99 (by decide) ?_
                refine lv_istore (lv' := [(4, .int 1), (5, .int (g (fx4_thing v5 2).toNatClampNeg)), (3, .int v5), (0, .ref (am 0)), (1, .int x1), (2, .int x2)]) hx hb dX4_looks_103 hl (by decide) rfl (fun ls hl => ?_)
                refine lv_sipush (v := 479) hx hb dX4_looks_105 (by decide) ?_
                refine lv_iconst (v := 4) hx hb dX4_looks_108 (by decide) ?_
                refine lv_aload_n hx hb dX4_looks_109 rfl (lv_at hl 3 rfl) ?_
                refine va_get (D := D) (ci := 4) (v := .ref (am 1)) (C := RX4) (T := TX4) (N := 8) hx hb hts hinX4 hown hK hP 0 rfl rfl 0 (by decide) q1 (fun _ h9 => h9) rfl dX4_looks_110 ?_
                refine lv_sipush (v := 478) hx hb dX4_looks_113 (by decide) ?_
                refine va_iald hx hb hK hP 1 0 rfl rfl (kin_lit (j := 478) (n := 1203) (by decide) (by decide)) dX4_looks_116 ?_
                refine kw_top (v := .int (g 478)) rfl ?_
                refine lv_imul hx hb dX4_looks_117 ?_
                refine lv_iadd hx hb dX4_looks_118 ?_
                refine lv_istore (lv' := [(5, .int (479 + (4 * (g 478)))), (4, .int 1), (3, .int v5), (0, .ref (am 0)), (1, .int x1), (2, .int x2)]) hx hb dX4_looks_119 hl (by decide) rfl (fun ls hl => ?_)
                refine lv_aload_n hx hb dX4_looks_121 rfl (lv_at hl 3 rfl) ?_
                refine va_get (D := D) (ci := 4) (v := .ref (am 1)) (C := RX4) (T := TX4) (N := 8) hx hb hts hinX4 hown hK hP 0 rfl rfl 0 (by decide) q1 (fun _ h9 => h9) rfl dX4_looks_122 ?_
                refine lv_iload hx hb dX4_looks_125 (lv_at hl 0 rfl) ?_
                refine lv_aload_n hx hb dX4_looks_127 rfl (lv_at hl 3 rfl) ?_
                refine va_get (D := D) (ci := 4) (v := .ref (am 1)) (C := RX4) (T := TX4) (N := 8) hx hb hts hinX4 hown hK hP 0 rfl rfl 0 (by decide) q1 (fun _ h9 => h9) rfl dX4_looks_128 ?_
                refine lv_iload_n hx hb dX4_looks_131 rfl (lv_at hl 4 rfl) ?_
                refine lv_iconst (v := 0) hx hb dX4_looks_132 (by decide) ?_
                refine kcsI (As := [.int x1, .int 0]) (rest := [.ref (am 1), .int (479 + (4 * (g 478))), .ref (am 1)]) E.1 (cx4_entry E x1 0) hX (va_cwS 2 hts gX4_looks_X4_entry rfl rfl rfl hdX4_entry.2 ⟨Nat.le_of_ble_eq_true rfl, Nat.le_of_ble_eq_true rfl⟩) hKs hP hD hS hA _ _ (kw_nil _) (kw_nil _).symm rfl rfl hl.1 (Nat.le_of_ble_eq_true rfl) dX4_looks_133 ⟨Nat.zero_le _, Nat.zero_le _⟩ (fun H locs hP hD hS => ?_)
                obtain ⟨hi43, hF⟩ := hF
                refine va_iald hx hb hK hP 1 0 rfl rfl hi43 dX4_looks_136 ?_
                obtain ⟨hi44, hF⟩ := hF
                refine va_iast hx hb hK hP hD hS 1 0 rfl rfl hi44 dX4_looks_137 (fun H locs hP hD hS => ?_)
                have hP : va_P D vwCl (mnW cI am sv rf ln hs (upd g (479 + (4 * (g 478))).toNatClampNeg (g (fx4_entry x1 0).toNatClampNeg))) H := hP
                have hD : va_D A (mnW cI am sv rf ln hs (upd g (479 + (4 * (g 478))).toNatClampNeg (g (fx4_entry x1 0).toNatClampNeg))) := hD
                generalize eg45 : upd g (479 + (4 * (g 478))).toNatClampNeg (g (fx4_entry x1 0).toNatClampNeg) = g45 at hR hP hD hF
                replace hR := bnd_e hR
                replace hF := bnd_p hF
                refine lv_aload_n hx hb dX4_looks_138 rfl (lv_at hl 3 rfl) ?_
                refine va_get (D := D) (ci := 4) (v := .ref (am 1)) (C := RX4) (T := TX4) (N := 8) hx hb hts hinX4 hown hK hP 0 rfl rfl 0 (by decide) q1 (fun _ h9 => h9) rfl dX4_looks_139 ?_
                refine lv_iload hx hb dX4_looks_142 (lv_at hl 0 rfl) ?_
                refine lv_iconst (v := 1) hx hb dX4_looks_144 (by decide) ?_
                refine lv_iadd hx hb dX4_looks_145 ?_
                refine lv_iload_n hx hb dX4_looks_146 rfl (lv_at hl 5 rfl) ?_
                obtain ⟨hi46, hF⟩ := hF
                refine va_iast hx hb hK hP hD hS 1 0 rfl rfl hi46 dX4_looks_147 (fun H locs hP hD hS => ?_)
                have hP : va_P D vwCl (mnW cI am sv rf ln hs (upd g45 ((479 + (4 * (g 478))) + 1).toNatClampNeg x2)) H := hP
                have hD : va_D A (mnW cI am sv rf ln hs (upd g45 ((479 + (4 * (g 478))) + 1).toNatClampNeg x2)) := hD
                generalize eg47 : upd g45 ((479 + (4 * (g 478))) + 1).toNatClampNeg x2 = g47 at hR hP hD hF
                replace hR := bnd_e hR
                replace hF := bnd_p hF
                refine lv_aload_n hx hb dX4_looks_148 rfl (lv_at hl 3 rfl) ?_
                refine va_get (D := D) (ci := 4) (v := .ref (am 1)) (C := RX4) (T := TX4) (N := 8) hx hb hts hinX4 hown hK hP 0 rfl rfl 0 (by decide) q1 (fun _ h9 => h9) rfl dX4_looks_149 ?_
                refine lv_iload hx hb dX4_looks_152 (lv_at hl 0 rfl) ?_
                refine lv_iconst (v := 2) hx hb dX4_looks_154 (by decide) ?_
                refine lv_iadd hx hb dX4_looks_155 ?_
                refine lv_iload hx hb dX4_looks_156 (lv_at hl 1 rfl) ?_
                obtain ⟨hi48, hF⟩ := hF
                refine va_iast hx hb hK hP hD hS 1 0 rfl rfl hi48 dX4_looks_158 (fun H locs hP hD hS => ?_)
                have hP : va_P D vwCl (mnW cI am sv rf ln hs (upd g47 ((479 + (4 * (g 478))) + 2).toNatClampNeg 1)) H := hP
                have hD : va_D A (mnW cI am sv rf ln hs (upd g47 ((479 + (4 * (g 478))) + 2).toNatClampNeg 1)) := hD
                generalize eg49 : upd g47 ((479 + (4 * (g 478))) + 2).toNatClampNeg 1 = g49 at hR hP hD hF
                replace hR := bnd_e hR
                replace hF := bnd_p hF
                refine lv_aload_n hx hb dX4_looks_159 rfl (lv_at hl 3 rfl) ?_
                refine va_get (D := D) (ci := 4) (v := .ref (am 1)) (C := RX4) (T := TX4) (N := 8) hx hb hts hinX4 hown hK hP 0 rfl rfl 0 (by decide) q1 (fun _ h9 => h9) rfl dX4_looks_160 ?_
                refine lv_iload hx hb dX4_looks_163 (lv_at hl 0 rfl) ?_
                refine lv_iconst (v := 3) hx hb dX4_looks_165 (by decide) ?_
                refine lv_iadd hx hb dX4_looks_166 ?_
                refine lv_aload_n hx hb dX4_looks_167 rfl (lv_at hl 3 rfl) ?_
                refine va_get (D := D) (ci := 4) (v := .ref (am 1)) (C := RX4) (T := TX4) (N := 8) hx hb hts hinX4 hown hK hP 0 rfl rfl 0 (by decide) q1 (fun _ h9 => h9) rfl dX4_looks_168 ?_
                refine lv_bipush (v := 14) hx hb dX4_looks_171 (by decide) ?_
                refine va_iald hx hb hK hP 1 0 rfl rfl (kin_lit (j := 14) (n := 1203) (by decide) (by decide)) dX4_looks_173 ?_
                refine kw_top (v := .int (g49 14)) rfl ?_
                refine lv_aload_n hx hb dX4_looks_174 rfl (lv_at hl 3 rfl) ?_
                refine va_get (D := D) (ci := 4) (v := .ref (am 1)) (C := RX4) (T := TX4) (N := 8) hx hb hts hinX4 hown hK hP 0 rfl rfl 0 (by decide) q1 (fun _ h9 => h9) rfl dX4_looks_175 ?_
                refine lv_iconst (v := 1) hx hb dX4_looks_178 (by decide) ?_
                refine va_iald hx hb hK hP 1 0 rfl rfl (kin_lit (j := 1) (n := 1203) (by decide) (by decide)) dX4_looks_179 ?_
                refine kw_top (v := .int (g49 1)) rfl ?_
                refine lv_iadd hx hb dX4_looks_180 ?_
                have hi50 := hF
                refine va_iast hx hb hK hP hD hS 1 0 rfl rfl hi50 dX4_looks_181 (fun H locs hP hD hS => ?_)
                have hP : va_P D vwCl (mnW cI am sv rf ln hs (upd g49 ((479 + (4 * (g 478))) + 3).toNatClampNeg ((g49 14) + (g49 1)))) H := hP
                have hD : va_D A (mnW cI am sv rf ln hs (upd g49 ((479 + (4 * (g 478))) + 3).toNatClampNeg ((g49 14) + (g49 1)))) := hD
                generalize eg51 : upd g49 ((479 + (4 * (g 478))) + 3).toNatClampNeg ((g49 14) + (g49 1)) = g51 at hR hP hD
                replace hR := bnd_e hR
                refine lv_aload_n hx hb dX4_looks_182 rfl (lv_at hl 3 rfl) ?_
                refine va_get (D := D) (ci := 4) (v := .ref (am 1)) (C := RX4) (T := TX4) (N := 8) hx hb hts hinX4 hown hK hP 0 rfl rfl 0 (by decide) q1 (fun _ h9 => h9) rfl dX4_looks_183 ?_
                refine lv_sipush (v := 478) hx hb dX4_looks_186 (by decide) ?_
                refine lv_dup2_11 hx hb dX4_looks_189 rfl rfl ?_
                refine va_iald hx hb hK hP 1 0 rfl rfl (kin_lit (j := 478) (n := 1203) (by decide) (by decide)) dX4_looks_190 ?_
                refine kw_top (v := .int (g51 478)) rfl ?_
                refine lv_iconst (v := 1) hx hb dX4_looks_191 (by decide) ?_
                refine lv_iadd hx hb dX4_looks_192 ?_
                refine va_iast hx hb hK hP hD hS 1 0 rfl rfl (kin_lit (j := 478) (n := 1203) (by decide) (by decide)) dX4_looks_193 (fun H locs hP hD hS => ?_)
                have hP : va_P D vwCl (mnW cI am sv rf ln hs (upd g51 478 ((g51 478) + 1))) H := hP
                have hD : va_D A (mnW cI am sv rf ln hs (upd g51 478 ((g51 478) + 1))) := hD
                generalize eg52 : upd g51 478 ((g51 478) + 1) = g52 at hR hP hD
                replace hR := bnd_e hR
                subst hR
                exact krV hx hb hr hlk hP hD hS dX4_looks_194 rfl
            · rw [if_pos c31] at hR hF
              refine lv_iconst (v := 2) hx hb dX4_looks_83 (by decide) ?_
              refine lv_goto (tgt := 103) hx hb dX4_looks_84 (by decide) ?_
              refine lv_istore (lv' := [(4, .int 2), (5, .int (g (fx4_thing v5 2).toNatClampNeg)), (3, .int v5), (0, .ref (am 0)), (1, .int x1), (2, .int x2)]) hx hb dX4_looks_103 hl (by decide) rfl (fun ls hl => ?_)
              refine lv_sipush (v := 479) hx hb dX4_looks_105 (by decide) ?_
              refine lv_iconst (v := 4) hx hb dX4_looks_108 (by decide) ?_
              refine lv_aload_n hx hb dX4_looks_109 rfl (lv_at hl 3 rfl) ?_
              refine va_get (D := D) (ci := 4) (v := .ref (am 1)) (C := RX4) (T := TX4) (N := 8) hx hb hts hinX4 hown hK hP 0 rfl rfl 0 (by decide) q1 (fun _ h9 => h9) rfl dX4_looks_110 ?_
              refine lv_sipush (v := 478) hx hb dX4_looks_113 (by decide) ?_
              refine va_iald hx hb hK hP 1 0 rfl rfl (kin_lit (j := 478) (n := 1203) (by decide) (by decide)) dX4_looks_116 ?_
              refine kw_top (v := .int (g 478)) rfl ?_
              refine lv_imul hx hb dX4_looks_117 ?_
              refine lv_iadd hx hb dX4_looks_118 ?_
              refine lv_istore (lv' := [(5, .int (479 + (4 * (g 478)))), (4, .int 2), (3, .int v5), (0, .ref (am 0)), (1, .int x1), (2, .int x2)]) hx hb dX4_looks_119 hl (by decide) rfl (fun ls hl => ?_)
              refine lv_aload_n hx hb dX4_looks_121 rfl (lv_at hl 3 rfl) ?_
              refine va_get (D := D) (ci := 4) (v := .ref (am 1)) (C := RX4) (T := TX4) (N := 8) hx hb hts hinX4 hown hK hP 0 rfl rfl 0 (by decide) q1 (fun _ h9 => h9) rfl dX4_looks_122 ?_
              refine lv_iload hx hb dX4_looks_125 (lv_at hl 0 rfl) ?_
              refine lv_aload_n hx hb dX4_looks_127 rfl (lv_at hl 3 rfl) ?_
              refine va_get (D := D) (ci := 4) (v := .ref (am 1)) (C := RX4) (T := TX4) (N := 8) hx hb hts hinX4 hown hK hP 0 rfl rfl 0 (by decide) q1 (fun _ h9 => h9) rfl dX4_looks_128 ?_
              refine lv_iload_n hx hb dX4_looks_131 rfl (lv_at hl 4 rfl) ?_
              refine lv_iconst (v := 0) hx hb dX4_looks_132 (by decide) ?_
              refine kcsI (As := [.int x1, .int 0]) (rest := [.ref (am 1), .int (479 + (4 * (g 478))), .ref (am 1)]) E.1 (cx4_entry E x1 0) hX (va_cwS 2 hts gX4_looks_X4_entry rfl rfl rfl hdX4_entry.2 ⟨Nat.le_of_ble_eq_true rfl, Nat.le_of_ble_eq_true rfl⟩) hKs hP hD hS hA _ _ (kw_nil _) (kw_nil _).symm rfl rfl hl.1 (Nat.le_of_ble_eq_true rfl) dX4_looks_133 ⟨Nat.zero_le _, Nat.zero_le _⟩ (fun H locs hP hD hS => ?_)
              obtain ⟨hi32, hF⟩ := hF
              refine va_iald hx hb hK hP 1 0 rfl rfl hi32 dX4_looks_136 ?_
              obtain ⟨hi33, hF⟩ := hF
              refine va_iast hx hb hK hP hD hS 1 0 rfl rfl hi33 dX4_looks_137 (fun H locs hP hD hS => ?_)
              have hP : va_P D vwCl (mnW cI am sv rf ln hs (upd g (479 + (4 * (g 478))).toNatClampNeg (g (fx4_entry x1 0).toNatClampNeg))) H := hP
              have hD : va_D A (mnW cI am sv rf ln hs (upd g (479 + (4 * (g 478))).toNatClampNeg (g (fx4_entry x1 0).toNatClampNeg))) := hD
              generalize eg34 : upd g (479 + (4 * (g 478))).toNatClampNeg (g (fx4_entry x1 0).toNatClampNeg) = g34 at hR hP hD hF
              replace hR := bnd_e hR
              replace hF := bnd_p hF
              refine lv_aload_n hx hb dX4_looks_138 rfl (lv_at hl 3 rfl) ?_
              refine va_get (D := D) (ci := 4) (v := .ref (am 1)) (C := RX4) (T := TX4) (N := 8) hx hb hts hinX4 hown hK hP 0 rfl rfl 0 (by decide) q1 (fun _ h9 => h9) rfl dX4_looks_139 ?_
              refine lv_iload hx hb dX4_looks_142 (lv_at hl 0 rfl) ?_
              refine lv_iconst (v := 1) hx hb dX4_looks_144 (by decide) ?_
              refine lv_iadd hx hb dX4_looks_145 ?_
              refine lv_iload_n hx hb dX4_looks_146 rfl (lv_at hl 5 rfl) ?_
              obtain ⟨hi35, hF⟩ := hF
              refine va_iast hx hb hK hP hD hS 1 0 rfl rfl hi35 dX4_looks_147 (fun H locs hP hD hS => ?_)
              have hP : va_P D vwCl (mnW cI am sv rf ln hs (upd g34 ((479 + (4 * (g 478))) + 1).toNatClampNeg x2)) H := hP
              have hD : va_D A (mnW cI am sv rf ln hs (upd g34 ((479 + (4 * (g 478))) + 1).toNatClampNeg x2)) := hD
              generalize eg36 : upd g34 ((479 + (4 * (g 478))) + 1).toNatClampNeg x2 = g36 at hR hP hD hF
              replace hR := bnd_e hR
              replace hF := bnd_p hF
              refine lv_aload_n hx hb dX4_looks_148 rfl (lv_at hl 3 rfl) ?_
              refine va_get (D := D) (ci := 4) (v := .ref (am 1)) (C := RX4) (T := TX4) (N := 8) hx hb hts hinX4 hown hK hP 0 rfl rfl 0 (by decide) q1 (fun _ h9 => h9) rfl dX4_looks_149 ?_
              refine lv_iload hx hb dX4_looks_152 (lv_at hl 0 rfl) ?_
              refine lv_iconst (v := 2) hx hb dX4_looks_154 (by decide) ?_
              refine lv_iadd hx hb dX4_looks_155 ?_
              refine lv_iload hx hb dX4_looks_156 (lv_at hl 1 rfl) ?_
              obtain ⟨hi37, hF⟩ := hF
              refine va_iast hx hb hK hP hD hS 1 0 rfl rfl hi37 dX4_looks_158 (fun H locs hP hD hS => ?_)
              have hP : va_P D vwCl (mnW cI am sv rf ln hs (upd g36 ((479 + (4 * (g 478))) + 2).toNatClampNeg 2)) H := hP
              have hD : va_D A (mnW cI am sv rf ln hs (upd g36 ((479 + (4 * (g 478))) + 2).toNatClampNeg 2)) := hD
              generalize eg38 : upd g36 ((479 + (4 * (g 478))) + 2).toNatClampNeg 2 = g38 at hR hP hD hF
              replace hR := bnd_e hR
              replace hF := bnd_p hF
              refine lv_aload_n hx hb dX4_looks_159 rfl (lv_at hl 3 rfl) ?_
              refine va_get (D := D) (ci := 4) (v := .ref (am 1)) (C := RX4) (T := TX4) (N := 8) hx hb hts hinX4 hown hK hP 0 rfl rfl 0 (by decide) q1 (fun _ h9 => h9) rfl dX4_looks_160 ?_
              refine lv_iload hx hb dX4_looks_163 (lv_at hl 0 rfl) ?_
              refine lv_iconst (v := 3) hx hb dX4_looks_165 (by decide) ?_
              refine lv_iadd hx hb dX4_looks_166 ?_
              refine lv_aload_n hx hb dX4_looks_167 rfl (lv_at hl 3 rfl) ?_
              refine va_get (D := D) (ci := 4) (v := .ref (am 1)) (C := RX4) (T := TX4) (N := 8) hx hb hts hinX4 hown hK hP 0 rfl rfl 0 (by decide) q1 (fun _ h9 => h9) rfl dX4_looks_168 ?_
              refine lv_bipush (v := 14) hx hb dX4_looks_171 (by decide) ?_
              refine va_iald hx hb hK hP 1 0 rfl rfl (kin_lit (j := 14) (n := 1203) (by decide) (by decide)) dX4_looks_173 ?_
              refine kw_top (v := .int (g38 14)) rfl ?_
              refine lv_aload_n hx hb dX4_looks_174 rfl (lv_at hl 3 rfl) ?_
              refine va_get (D := D) (ci := 4) (v := .ref (am 1)) (C := RX4) (T := TX4) (N := 8) hx hb hts hinX4 hown hK hP 0 rfl rfl 0 (by decide) q1 (fun _ h9 => h9) rfl dX4_looks_175 ?_
              refine lv_iconst (v := 1) hx hb dX4_looks_178 (by decide) ?_
              refine va_iald hx hb hK hP 1 0 rfl rfl (kin_lit (j := 1) (n := 1203) (by decide) (by decide)) dX4_looks_179 ?_
              refine kw_top (v := .int (g38 1)) rfl ?_
              refine lv_iadd hx hb dX4_looks_180 ?_
              have hi39 := hF
              refine va_iast hx hb hK hP hD hS 1 0 rfl rfl hi39 dX4_looks_181 (fun H locs hP hD hS => ?_)
              have hP : va_P D vwCl (mnW cI am sv rf ln hs (upd g38 ((479 + (4 * (g 478))) + 3).toNatClampNeg ((g38 14) + (g38 1)))) H := hP
              have hD : va_D A (mnW cI am sv rf ln hs (upd g38 ((479 + (4 * (g 478))) + 3).toNatClampNeg ((g38 14) + (g38 1)))) := hD
              generalize eg40 : upd g38 ((479 + (4 * (g 478))) + 3).toNatClampNeg ((g38 14) + (g38 1)) = g40 at hR hP hD
              replace hR := bnd_e hR
              refine lv_aload_n hx hb dX4_looks_182 rfl (lv_at hl 3 rfl) ?_
              refine va_get (D := D) (ci := 4) (v := .ref (am 1)) (C := RX4) (T := TX4) (N := 8) hx hb hts hinX4 hown hK hP 0 rfl rfl 0 (by decide) q1 (fun _ h9 => h9) rfl dX4_looks_183 ?_
              refine lv_sipush (v := 478) hx hb dX4_looks_186 (by decide) ?_
              refine lv_dup2_11 hx hb dX4_looks_189 rfl rfl ?_
              refine va_iald hx hb hK hP 1 0 rfl rfl (kin_lit (j := 478) (n := 1203) (by decide) (by decide)) dX4_looks_190 ?_
              refine kw_top (v := .int (g40 478)) rfl ?_
              refine lv_iconst (v := 1) hx hb dX4_looks_191 (by decide) ?_
              refine lv_iadd hx hb dX4_looks_192 ?_
              refine va_iast hx hb hK hP hD hS 1 0 rfl rfl (kin_lit (j := 478) (n := 1203) (by decide) (by decide)) dX4_looks_193 (fun H locs hP hD hS => ?_)
              have hP : va_P D vwCl (mnW cI am sv rf ln hs (upd g40 478 ((g40 478) + 1))) H := hP
              have hD : va_D A (mnW cI am sv rf ln hs (upd g40 478 ((g40 478) + 1))) := hD
              generalize eg41 : upd g40 478 ((g40 478) + 1) = g41 at hR hP hD
              replace hR := bnd_e hR
              subst hR
              exact krV hx hb hr hlk hP hD hS dX4_looks_194 rfl
          · rw [if_pos c20] at hR hF
            refine lv_iconst (v := 1) hx hb dX4_looks_73 (by decide) ?_
            refine lv_goto (tgt := 103) hx hb dX4_looks_74 (by decide) ?_
            refine lv_istore (lv' := [(4, .int 1), (5, .int (g (fx4_thing v5 2).toNatClampNeg)), (3, .int v5), (0, .ref (am 0)), (1, .int x1), (2, .int x2)]) hx hb dX4_looks_103 hl (by decide) rfl (fun ls hl => ?_)
            refine lv_sipush (v := 479) hx hb dX4_looks_105 (by decide) ?_
            refine lv_iconst (v := 4) hx hb dX4_looks_108 (by decide) ?_
            refine lv_aload_n hx hb dX4_looks_109 rfl (lv_at hl 3 rfl) ?_
            refine va_get (D := D) (ci := 4) (v := .ref (am 1)) (C := RX4) (T := TX4) (N := 8) hx hb hts hinX4 hown hK hP 0 rfl rfl 0 (by decide) q1 (fun _ h9 => h9) rfl dX4_looks_110 ?_
            refine lv_sipush (v := 478) hx hb dX4_looks_113 (by decide) ?_
            refine va_iald hx hb hK hP 1 0 rfl rfl (kin_lit (j := 478) (n := 1203) (by decide) (by decide)) dX4_looks_116 ?_
            refine kw_top (v := .int (g 478)) rfl ?_
            refine lv_imul hx hb dX4_looks_117 ?_
            refine lv_iadd hx hb dX4_looks_118 ?_
            refine lv_istore (lv' := [(5, .int (479 + (4 * (g 478)))), (4, .int 1), (3, .int v5), (0, .ref (am 0)), (1, .int x1), (2, .int x2)]) hx hb dX4_looks_119 hl (by decide) rfl (fun ls hl => ?_)
            refine lv_aload_n hx hb dX4_looks_121 rfl (lv_at hl 3 rfl) ?_
            refine va_get (D := D) (ci := 4) (v := .ref (am 1)) (C := RX4) (T := TX4) (N := 8) hx hb hts hinX4 hown hK hP 0 rfl rfl 0 (by decide) q1 (fun _ h9 => h9) rfl dX4_looks_122 ?_
            refine lv_iload hx hb dX4_looks_125 (lv_at hl 0 rfl) ?_
            refine lv_aload_n hx hb dX4_looks_127 rfl (lv_at hl 3 rfl) ?_
            refine va_get (D := D) (ci := 4) (v := .ref (am 1)) (C := RX4) (T := TX4) (N := 8) hx hb hts hinX4 hown hK hP 0 rfl rfl 0 (by decide) q1 (fun _ h9 => h9) rfl dX4_looks_128 ?_
            refine lv_iload_n hx hb dX4_looks_131 rfl (lv_at hl 4 rfl) ?_
            refine lv_iconst (v := 0) hx hb dX4_looks_132 (by decide) ?_
            refine kcsI (As := [.int x1, .int 0]) (rest := [.ref (am 1), .int (479 + (4 * (g 478))), .ref (am 1)]) E.1 (cx4_entry E x1 0) hX (va_cwS 2 hts gX4_looks_X4_entry rfl rfl rfl hdX4_entry.2 ⟨Nat.le_of_ble_eq_true rfl, Nat.le_of_ble_eq_true rfl⟩) hKs hP hD hS hA _ _ (kw_nil _) (kw_nil _).symm rfl rfl hl.1 (Nat.le_of_ble_eq_true rfl) dX4_looks_133 ⟨Nat.zero_le _, Nat.zero_le _⟩ (fun H locs hP hD hS => ?_)
            obtain ⟨hi21, hF⟩ := hF
            refine va_iald hx hb hK hP 1 0 rfl rfl hi21 dX4_looks_136 ?_
            obtain ⟨hi22, hF⟩ := hF
            refine va_iast hx hb hK hP hD hS 1 0 rfl rfl hi22 dX4_looks_137 (fun H locs hP hD hS => ?_)
            have hP : va_P D vwCl (mnW cI am sv rf ln hs (upd g (479 + (4 * (g 478))).toNatClampNeg (g (fx4_entry x1 0).toNatClampNeg))) H := hP
            have hD : va_D A (mnW cI am sv rf ln hs (upd g (479 + (4 * (g 478))).toNatClampNeg (g (fx4_entry x1 0).toNatClampNeg))) := hD
            generalize eg23 : upd g (479 + (4 * (g 478))).toNatClampNeg (g (fx4_entry x1 0).toNatClampNeg) = g23 at hR hP hD hF
            replace hR := bnd_e hR
            replace hF := bnd_p hF
            refine lv_aload_n hx hb dX4_looks_138 rfl (lv_at hl 3 rfl) ?_
            refine va_get (D := D) (ci := 4) (v := .ref (am 1)) (C := RX4) (T := TX4) (N := 8) hx hb hts hinX4 hown hK hP 0 rfl rfl 0 (by decide) q1 (fun _ h9 => h9) rfl dX4_looks_139 ?_
            refine lv_iload hx hb dX4_looks_142 (lv_at hl 0 rfl) ?_
            refine lv_iconst (v := 1) hx hb dX4_looks_144 (by decide) ?_
            refine lv_iadd hx hb dX4_looks_145 ?_
            refine lv_iload_n hx hb dX4_looks_146 rfl (lv_at hl 5 rfl) ?_
            obtain ⟨hi24, hF⟩ := hF
            refine va_iast hx hb hK hP hD hS 1 0 rfl rfl hi24 dX4_looks_147 (fun H locs hP hD hS => ?_)
            have hP : va_P D vwCl (mnW cI am sv rf ln hs (upd g23 ((479 + (4 * (g 478))) + 1).toNatClampNeg x2)) H := hP
            have hD : va_D A (mnW cI am sv rf ln hs (upd g23 ((479 + (4 * (g 478))) + 1).toNatClampNeg x2)) := hD
            generalize eg25 : upd g23 ((479 + (4 * (g 478))) + 1).toNatClampNeg x2 = g25 at hR hP hD hF
            replace hR := bnd_e hR
            replace hF := bnd_p hF
            refine lv_aload_n hx hb dX4_looks_148 rfl (lv_at hl 3 rfl) ?_
            refine va_get (D := D) (ci := 4) (v := .ref (am 1)) (C := RX4) (T := TX4) (N := 8) hx hb hts hinX4 hown hK hP 0 rfl rfl 0 (by decide) q1 (fun _ h9 => h9) rfl dX4_looks_149 ?_
            refine lv_iload hx hb dX4_looks_152 (lv_at hl 0 rfl) ?_
            refine lv_iconst (v := 2) hx hb dX4_looks_154 (by decide) ?_
            refine lv_iadd hx hb dX4_looks_155 ?_
            refine lv_iload hx hb dX4_looks_156 (lv_at hl 1 rfl) ?_
            obtain ⟨hi26, hF⟩ := hF
            refine va_iast hx hb hK hP hD hS 1 0 rfl rfl hi26 dX4_looks_158 (fun H locs hP hD hS => ?_)
            have hP : va_P D vwCl (mnW cI am sv rf ln hs (upd g25 ((479 + (4 * (g 478))) + 2).toNatClampNeg 1)) H := hP
            have hD : va_D A (mnW cI am sv rf ln hs (upd g25 ((479 + (4 * (g 478))) + 2).toNatClampNeg 1)) := hD
            generalize eg27 : upd g25 ((479 + (4 * (g 478))) + 2).toNatClampNeg 1 = g27 at hR hP hD hF
            replace hR := bnd_e hR
            replace hF := bnd_p hF
            refine lv_aload_n hx hb dX4_looks_159 rfl (lv_at hl 3 rfl) ?_
            refine va_get (D := D) (ci := 4) (v := .ref (am 1)) (C := RX4) (T := TX4) (N := 8) hx hb hts hinX4 hown hK hP 0 rfl rfl 0 (by decide) q1 (fun _ h9 => h9) rfl dX4_looks_160 ?_
            refine lv_iload hx hb dX4_looks_163 (lv_at hl 0 rfl) ?_
            refine lv_iconst (v := 3) hx hb dX4_looks_165 (by decide) ?_
            refine lv_iadd hx hb dX4_looks_166 ?_
            refine lv_aload_n hx hb dX4_looks_167 rfl (lv_at hl 3 rfl) ?_
            refine va_get (D := D) (ci := 4) (v := .ref (am 1)) (C := RX4) (T := TX4) (N := 8) hx hb hts hinX4 hown hK hP 0 rfl rfl 0 (by decide) q1 (fun _ h9 => h9) rfl dX4_looks_168 ?_
            refine lv_bipush (v := 14) hx hb dX4_looks_171 (by decide) ?_
            refine va_iald hx hb hK hP 1 0 rfl rfl (kin_lit (j := 14) (n := 1203) (by decide) (by decide)) dX4_looks_173 ?_
            refine kw_top (v := .int (g27 14)) rfl ?_
            refine lv_aload_n hx hb dX4_looks_174 rfl (lv_at hl 3 rfl) ?_
            refine va_get (D := D) (ci := 4) (v := .ref (am 1)) (C := RX4) (T := TX4) (N := 8) hx hb hts hinX4 hown hK hP 0 rfl rfl 0 (by decide) q1 (fun _ h9 => h9) rfl dX4_looks_175 ?_
            refine lv_iconst (v := 1) hx hb dX4_looks_178 (by decide) ?_
            refine va_iald hx hb hK hP 1 0 rfl rfl (kin_lit (j := 1) (n := 1203) (by decide) (by decide)) dX4_looks_179 ?_
            refine kw_top (v := .int (g27 1)) rfl ?_
            refine lv_iadd hx hb dX4_looks_180 ?_
            have hi28 := hF
            refine va_iast hx hb hK hP hD hS 1 0 rfl rfl hi28 dX4_looks_181 (fun H locs hP hD hS => ?_)
            have hP : va_P D vwCl (mnW cI am sv rf ln hs (upd g27 ((479 + (4 * (g 478))) + 3).toNatClampNeg ((g27 14) + (g27 1)))) H := hP
            have hD : va_D A (mnW cI am sv rf ln hs (upd g27 ((479 + (4 * (g 478))) + 3).toNatClampNeg ((g27 14) + (g27 1)))) := hD
            generalize eg29 : upd g27 ((479 + (4 * (g 478))) + 3).toNatClampNeg ((g27 14) + (g27 1)) = g29 at hR hP hD
            replace hR := bnd_e hR
            refine lv_aload_n hx hb dX4_looks_182 rfl (lv_at hl 3 rfl) ?_
            refine va_get (D := D) (ci := 4) (v := .ref (am 1)) (C := RX4) (T := TX4) (N := 8) hx hb hts hinX4 hown hK hP 0 rfl rfl 0 (by decide) q1 (fun _ h9 => h9) rfl dX4_looks_183 ?_
            refine lv_sipush (v := 478) hx hb dX4_looks_186 (by decide) ?_
            refine lv_dup2_11 hx hb dX4_looks_189 rfl rfl ?_
            refine va_iald hx hb hK hP 1 0 rfl rfl (kin_lit (j := 478) (n := 1203) (by decide) (by decide)) dX4_looks_190 ?_
            refine kw_top (v := .int (g29 478)) rfl ?_
            refine lv_iconst (v := 1) hx hb dX4_looks_191 (by decide) ?_
            refine lv_iadd hx hb dX4_looks_192 ?_
            refine va_iast hx hb hK hP hD hS 1 0 rfl rfl (kin_lit (j := 478) (n := 1203) (by decide) (by decide)) dX4_looks_193 (fun H locs hP hD hS => ?_)
            have hP : va_P D vwCl (mnW cI am sv rf ln hs (upd g29 478 ((g29 478) + 1))) H := hP
            have hD : va_D A (mnW cI am sv rf ln hs (upd g29 478 ((g29 478) + 1))) := hD
            generalize eg30 : upd g29 478 ((g29 478) + 1) = g30 at hR hP hD
            replace hR := bnd_e hR
            subst hR
            exact krV hx hb hr hlk hP hD hS dX4_looks_194 rfl
    · rw [if_neg c3] at hR hF
      subst hR
      exact krV hx hb hr hlk hP hD hS dX4_looks_19 rfl

theorem hdX4_leaves : yX4_leaves.cls = RX4 ∧ yX4_leaves.cls ≠ "java/lang/invoke/MethodHandle" ∧ yX4_leaves.cls ≠ "java/lang/invoke/VarHandle" ∧ (parseMethodDescriptor yX4_leaves.desc).map (fun d => d.parameters.length) = some 2 := by decide +kernel
def fx4_leaves (g : (Nat → Int32)) (x1 : Int32) (x2 : Int32) : (Nat → Int32) := (if (g (fx4_entry x1 0).toNatClampNeg) = (g 1202) then (bnd (upd g 1201 x2) (fun g3 => (bnd (fx4_counts g3 x2) (fun g4 => (bnd (fx4_drops g4 117 118 6 x1) (fun g5 => g5)))))) else (bnd (fx4_counts g x2) (fun g8 => (bnd (fx4_drops g8 117 118 6 x1) (fun g9 => g9)))))
def sx4_leaves (g : (Nat → Int32)) (x1 : Int32) (x2 : Int32) : Prop := (vp_in (fx4_entry x1 0) 1203 ∧ (if (g (fx4_entry x1 0).toNatClampNeg) = (g 1202) then (bnd (upd g 1201 x2) (fun g3 => (sx4_counts g3 x2 ∧ (bnd (fx4_counts g3 x2) (fun g4 => sx4_drops g4 117 118 6 x1))))) else (sx4_counts g x2 ∧ (bnd (fx4_counts g x2) (fun g8 => sx4_drops g8 117 118 6 x1)))))
set_option maxHeartbeats 4000000 in
set_option maxRecDepth 100000 in
theorem cx4_leaves {l : Launch} {D : va_G} {cI cB cS cJ : ClassId} {K : State → Prop} (E : kE D cI cB cS cJ K) (am : Nat → Nat) (sv rf ln : Int32) (hs : Int64) (g : (Nat → Int32)) (x1 : Int32) (x2 : Int32) (hF : sx4_leaves g x1 x2) : kV l D K yX4_leaves wsX4_leaves 1 25 [.ref (am 0), .int x1, .int x2] (mnW cI am sv rf ln hs g)  (mnW cI am sv rf ln hs (fx4_leaves g x1 x2)) := by
  refine kV_of (own := RX4) (cc := cX4_leaves) (maxL := 3) (tys := kty cI cB cS cJ) (fun U h => (E.2 U h).1) (by decide) rfl rfl (Nat.le_of_ble_eq_true rfl) ?_
  intro p e s m below meth c A ls hx hb hr hml hts hown hlk hKs hK hP hD hA hS hl
  have hl : lv_has ls 3 [(0, .ref (am 0)), (1, .int x1), (2, .int x2)] := hl
  have hX : CallFix p m c cX4_leaves 3 s _ wsX4_leaves RX4 := ⟨hx, hb, hml, hown, hts⟩
  have hinX4 : ∀ w ∈ wsX40, w ∈ wsX4_leaves := fun w h => List.mem_cons_of_mem _ (List.mem_append_right _ h)
  have q1 := hts (.fieldLink RX4 7 "LabelStationModel" "now" "[I") (List.mem_of_getElem? (i := 1) rfl)
  generalize hR : fx4_leaves g x1 x2 = R
  rw [fx4_leaves] at hR
  rw [sx4_leaves] at hF
  refine lv_aload_n hx hb dX4_leaves_0 rfl (lv_at hl 0 rfl) ?_
  refine va_get (D := D) (ci := 4) (v := .ref (am 1)) (C := RX4) (T := TX4) (N := 8) hx hb hts hinX4 hown hK hP 0 rfl rfl 0 (by decide) q1 (fun _ h9 => h9) rfl dX4_leaves_1 ?_
  refine lv_iload_n hx hb dX4_leaves_4 rfl (lv_at hl 1 rfl) ?_
  refine lv_iconst (v := 0) hx hb dX4_leaves_5 (by decide) ?_
  refine kcsI (As := [.int x1, .int 0]) (rest := [.ref (am 1)]) E.1 (cx4_entry E x1 0) hX (va_cwS 2 hts gX4_leaves_X4_entry rfl rfl rfl hdX4_entry.2 ⟨Nat.le_of_ble_eq_true rfl, Nat.le_of_ble_eq_true rfl⟩) hKs hP hD hS hA _ _ (kw_nil _) (kw_nil _).symm rfl rfl hl.1 (Nat.le_of_ble_eq_true rfl) dX4_leaves_6 ⟨Nat.zero_le _, Nat.zero_le _⟩ (fun H locs hP hD hS => ?_)
  obtain ⟨hi1, hF⟩ := hF
  refine va_iald hx hb hK hP 1 0 rfl rfl hi1 dX4_leaves_9 ?_
  refine lv_aload_n hx hb dX4_leaves_10 rfl (lv_at hl 0 rfl) ?_
  refine va_get (D := D) (ci := 4) (v := .ref (am 1)) (C := RX4) (T := TX4) (N := 8) hx hb hts hinX4 hown hK hP 0 rfl rfl 0 (by decide) q1 (fun _ h9 => h9) rfl dX4_leaves_11 ?_
  refine lv_sipush (v := 1202) hx hb dX4_leaves_14 (by decide) ?_
  refine va_iald hx hb hK hP 1 0 rfl rfl (kin_lit (j := 1202) (n := 1203) (by decide) (by decide)) dX4_leaves_17 ?_
  refine kw_top (v := .int (g 1202)) rfl ?_
  refine lv_icmp_ne (tgt := 30) hx hb dX4_leaves_18 (by decide) (fun c2 => ?_) (fun c2 => ?_)
  · rw [if_neg c2] at hR hF
    refine lv_aload_n hx hb dX4_leaves_30 rfl (lv_at hl 0 rfl) ?_
    refine lv_iload_n hx hb dX4_leaves_31 rfl (lv_at hl 2 rfl) ?_
    obtain ⟨hs11, hF⟩ := hF
    refine kcV (ci := 4) (q0 := 0) (As := [.int x2]) (rest := []) E.1 (cx4_counts E am sv rf ln hs g x2 hs11) hX (cwV 1 hts gX4_leaves_X4_counts rfl rfl rfl hdX4_counts ⟨Nat.le_of_ble_eq_true rfl, Nat.le_of_ble_eq_true rfl⟩) hKs hK hP hD hS hA _ _ (kw_self _) (kw_self _).symm rfl rfl rfl rfl hl.1 (Nat.le_of_ble_eq_true rfl) dX4_leaves_32 ⟨Nat.zero_le _, Nat.zero_le _⟩ (fun H locs hP hD hS => ?_)
    have hP : va_P D vwCl (mnW cI am sv rf ln hs (fx4_counts g x2)) H := hP
    have hD : va_D A (mnW cI am sv rf ln hs (fx4_counts g x2)) := hD
    generalize eg8 : fx4_counts g x2 = g8 at hR hF hP hD
    replace hR := bnd_e hR
    replace hF := bnd_p hF
    refine lv_aload_n hx hb dX4_leaves_35 rfl (lv_at hl 0 rfl) ?_
    refine lv_bipush (v := 117) hx hb dX4_leaves_36 (by decide) ?_
    refine lv_bipush (v := 118) hx hb dX4_leaves_38 (by decide) ?_
    refine lv_bipush (v := 6) hx hb dX4_leaves_40 (by decide) ?_
    refine lv_iload_n hx hb dX4_leaves_42 rfl (lv_at hl 1 rfl) ?_
    have hs10 := hF
    refine kcV (ci := 4) (q0 := 0) (As := [.int 117, .int 118, .int 6, .int x1]) (rest := []) E.1 (cx4_drops E am sv rf ln hs g8 117 118 6 x1 hs10) hX (cwV 4 hts gX4_leaves_X4_drops rfl rfl rfl hdX4_drops ⟨Nat.le_of_ble_eq_true rfl, Nat.le_of_ble_eq_true rfl⟩) hKs hK hP hD hS hA _ _ (kw_self _) (kw_self _).symm rfl rfl rfl rfl hl.1 (Nat.le_of_ble_eq_true rfl) dX4_leaves_43 ⟨Nat.zero_le _, Nat.zero_le _⟩ (fun H locs hP hD hS => ?_)
    have hP : va_P D vwCl (mnW cI am sv rf ln hs (fx4_drops g8 117 118 6 x1)) H := hP
    have hD : va_D A (mnW cI am sv rf ln hs (fx4_drops g8 117 118 6 x1)) := hD
    generalize eg9 : fx4_drops g8 117 118 6 x1 = g9 at hR hP hD
    replace hR := bnd_e hR
    subst hR
    exact krV hx hb hr hlk hP hD hS dX4_leaves_46 rfl
  · rw [if_pos c2] at hR hF
    refine lv_aload_n hx hb dX4_leaves_21 rfl (lv_at hl 0 rfl) ?_
    refine va_get (D := D) (ci := 4) (v := .ref (am 1)) (C := RX4) (T := TX4) (N := 8) hx hb hts hinX4 hown hK hP 0 rfl rfl 0 (by decide) q1 (fun _ h9 => h9) rfl dX4_leaves_22 ?_
    refine lv_sipush (v := 1201) hx hb dX4_leaves_25 (by decide) ?_
    refine lv_iload_n hx hb dX4_leaves_28 rfl (lv_at hl 2 rfl) ?_
    refine va_iast hx hb hK hP hD hS 1 0 rfl rfl (kin_lit (j := 1201) (n := 1203) (by decide) (by decide)) dX4_leaves_29 (fun H locs hP hD hS => ?_)
    have hP : va_P D vwCl (mnW cI am sv rf ln hs (upd g 1201 x2)) H := hP
    have hD : va_D A (mnW cI am sv rf ln hs (upd g 1201 x2)) := hD
    generalize eg3 : upd g 1201 x2 = g3 at hR hP hD hF
    replace hR := bnd_e hR
    replace hF := bnd_p hF
    refine lv_aload_n hx hb dX4_leaves_30 rfl (lv_at hl 0 rfl) ?_
    refine lv_iload_n hx hb dX4_leaves_31 rfl (lv_at hl 2 rfl) ?_
    obtain ⟨hs7, hF⟩ := hF
    refine kcV (ci := 4) (q0 := 0) (As := [.int x2]) (rest := []) E.1 (cx4_counts E am sv rf ln hs g3 x2 hs7) hX (cwV 1 hts gX4_leaves_X4_counts rfl rfl rfl hdX4_counts ⟨Nat.le_of_ble_eq_true rfl, Nat.le_of_ble_eq_true rfl⟩) hKs hK hP hD hS hA _ _ (kw_self _) (kw_self _).symm rfl rfl rfl rfl hl.1 (Nat.le_of_ble_eq_true rfl) dX4_leaves_32 ⟨Nat.zero_le _, Nat.zero_le _⟩ (fun H locs hP hD hS => ?_)
    have hP : va_P D vwCl (mnW cI am sv rf ln hs (fx4_counts g3 x2)) H := hP
    have hD : va_D A (mnW cI am sv rf ln hs (fx4_counts g3 x2)) := hD
    generalize eg4 : fx4_counts g3 x2 = g4 at hR hF hP hD
    replace hR := bnd_e hR
    replace hF := bnd_p hF
    refine lv_aload_n hx hb dX4_leaves_35 rfl (lv_at hl 0 rfl) ?_
    refine lv_bipush (v := 117) hx hb dX4_leaves_36 (by decide) ?_
    refine lv_bipush (v := 118) hx hb dX4_leaves_38 (by decide) ?_
    refine lv_bipush (v := 6) hx hb dX4_leaves_40 (by decide) ?_
    refine lv_iload_n hx hb dX4_leaves_42 rfl (lv_at hl 1 rfl) ?_
    have hs6 := hF
    refine kcV (ci := 4) (q0 := 0) (As := [.int 117, .int 118, .int 6, .int x1]) (rest := []) E.1 (cx4_drops E am sv rf ln hs g4 117 118 6 x1 hs6) hX (cwV 4 hts gX4_leaves_X4_drops rfl rfl rfl hdX4_drops ⟨Nat.le_of_ble_eq_true rfl, Nat.le_of_ble_eq_true rfl⟩) hKs hK hP hD hS hA _ _ (kw_self _) (kw_self _).symm rfl rfl rfl rfl hl.1 (Nat.le_of_ble_eq_true rfl) dX4_leaves_43 ⟨Nat.zero_le _, Nat.zero_le _⟩ (fun H locs hP hD hS => ?_)
    have hP : va_P D vwCl (mnW cI am sv rf ln hs (fx4_drops g4 117 118 6 x1)) H := hP
    have hD : va_D A (mnW cI am sv rf ln hs (fx4_drops g4 117 118 6 x1)) := hD
    generalize eg5 : fx4_drops g4 117 118 6 x1 = g5 at hR hP hD
    replace hR := bnd_e hR
    subst hR
    exact krV hx hb hr hlk hP hD hS dX4_leaves_46 rfl

theorem hdX4_gates : yX4_gates.cls = RX4 ∧ yX4_gates.cls ≠ "java/lang/invoke/MethodHandle" ∧ yX4_gates.cls ≠ "java/lang/invoke/VarHandle" ∧ (parseMethodDescriptor yX4_gates.desc).map (fun d => d.parameters.length) = some 1 := by decide +kernel
def fx4_gates (g : (Nat → Int32)) (x1 : Int32) : Int32 × ((Nat → Int32)) := (if (g (fx4_entry x1 3).toNatClampNeg) = 1 then (if (g (fx4_entry x1 2).toNatClampNeg) = 1 then (bnd (fx4_counts g 10) (fun g5 => (bnd (fx4_leaves g5 x1 2) (fun g6 => (bnd (fx4_itemAt g6 (g6 10)) (fun v7 => (if v7 = (-1) then (bnd (upd g6 (1041 + (g6 1040)).toNatClampNeg ((g6 14) + (g6 3))) (fun g10 => (bnd (upd g10 1040 ((g10 1040) + 1)) (fun g11 => (bnd (upd g11 12 ((g11 12) + 1)) (fun g12 => (if (g12 12) < (g12 4) then (0, g12) else (bnd (upd g12 12 0) (fun g14 => (bnd (fx4_alarms g14 1) (fun g15 => (0, g15)))))))))))) else (bnd (fx4_drops g6 36 37 4 v7) (fun g17 => (bnd (upd g17 35 ((g17 35) + 1)) (fun g18 => (bnd (upd g18 (960 + (g18 959)).toNatClampNeg ((g18 14) + (g18 2))) (fun g20 => (bnd (upd g20 959 ((g20 959) + 1)) (fun g21 => (bnd (upd g21 (1041 + (g21 1040)).toNatClampNeg ((g21 14) + (g21 3))) (fun g23 => (bnd (upd g23 1040 ((g23 1040) + 1)) (fun g24 => (bnd (upd g24 12 ((g24 12) + 1)) (fun g25 => (if (g25 12) < (g25 4) then (0, g25) else (bnd (upd g25 12 0) (fun g27 => (bnd (fx4_alarms g27 1) (fun g28 => (0, g28))))))))))))))))))))))))))) else (bnd (fx4_counts g 10) (fun g34 => (bnd (fx4_leaves g34 x1 2) (fun g35 => (bnd (fx4_itemAt g35 (g35 10)) (fun v36 => (if v36 = (-1) then (bnd (upd g35 (1041 + (g35 1040)).toNatClampNeg ((g35 14) + (g35 3))) (fun g39 => (bnd (upd g39 1040 ((g39 1040) + 1)) (fun g40 => (bnd (upd g40 12 ((g40 12) + 1)) (fun g41 => (if (g41 12) < (g41 4) then (0, g41) else (bnd (upd g41 12 0) (fun g43 => (bnd (fx4_alarms g43 1) (fun g44 => (0, g44)))))))))))) else (bnd (fx4_drops g35 36 37 4 v36) (fun g46 => (bnd (upd g46 35 ((g46 35) + 1)) (fun g47 => (bnd (upd g47 (960 + (g47 959)).toNatClampNeg ((g47 14) + (g47 2))) (fun g49 => (bnd (upd g49 959 ((g49 959) + 1)) (fun g50 => (bnd (upd g50 (1041 + (g50 1040)).toNatClampNeg ((g50 14) + (g50 3))) (fun g52 => (bnd (upd g52 1040 ((g52 1040) + 1)) (fun g53 => (bnd (upd g53 12 ((g53 12) + 1)) (fun g54 => (if (g54 12) < (g54 4) then (0, g54) else (bnd (upd g54 12 0) (fun g56 => (bnd (fx4_alarms g56 1) (fun g57 => (0, g57)))))))))))))))))))))))))))) else (if (g (fx4_entry x1 2).toNatClampNeg) = 1 then (bnd (upd g (fx4_entry x1 4).toNatClampNeg 1) (fun g65 => (bnd (upd g65 12 0) (fun g66 => (1, g66))))) else (if (g (fx4_entry x1 2).toNatClampNeg) = 2 then (bnd (fx4_counts g 11) (fun g68 => (bnd (fx4_leaves g68 x1 2) (fun g69 => (bnd (fx4_itemAt g69 (g69 10)) (fun v70 => (if v70 = (-1) then (bnd (upd g69 (1041 + (g69 1040)).toNatClampNeg ((g69 14) + (g69 3))) (fun g73 => (bnd (upd g73 1040 ((g73 1040) + 1)) (fun g74 => (bnd (upd g74 12 ((g74 12) + 1)) (fun g75 => (if (g75 12) < (g75 4) then (0, g75) else (bnd (upd g75 12 0) (fun g77 => (bnd (fx4_alarms g77 1) (fun g78 => (0, g78)))))))))))) else (bnd (fx4_drops g69 36 37 4 v70) (fun g80 => (bnd (upd g80 35 ((g80 35) + 1)) (fun g81 => (bnd (upd g81 (960 + (g81 959)).toNatClampNeg ((g81 14) + (g81 2))) (fun g83 => (bnd (upd g83 959 ((g83 959) + 1)) (fun g84 => (bnd (upd g84 (1041 + (g84 1040)).toNatClampNeg ((g84 14) + (g84 3))) (fun g86 => (bnd (upd g86 1040 ((g86 1040) + 1)) (fun g87 => (bnd (upd g87 12 ((g87 12) + 1)) (fun g88 => (if (g88 12) < (g88 4) then (0, g88) else (bnd (upd g88 12 0) (fun g90 => (bnd (fx4_alarms g90 1) (fun g91 => (0, g91))))))))))))))))))))))))))) else (if (g (fx4_entry x1 2).toNatClampNeg) = 3 then (bnd (fx4_counts g 12) (fun g98 => (bnd (fx4_leaves g98 x1 2) (fun g99 => (bnd (fx4_itemAt g99 (g99 10)) (fun v100 => (if v100 = (-1) then (bnd (upd g99 (1041 + (g99 1040)).toNatClampNeg ((g99 14) + (g99 3))) (fun g103 => (bnd (upd g103 1040 ((g103 1040) + 1)) (fun g104 => (bnd (upd g104 12 ((g104 12) + 1)) (fun g105 => (if (g105 12) < (g105 4) then (0, g105) else (bnd (upd g105 12 0) (fun g107 => (bnd (fx4_alarms g107 1) (fun g108 => (0, g108)))))))))))) else (bnd (fx4_drops g99 36 37 4 v100) (fun g110 => (bnd (upd g110 35 ((g110 35) + 1)) (fun g111 => (bnd (upd g111 (960 + (g111 959)).toNatClampNeg ((g111 14) + (g111 2))) (fun g113 => (bnd (upd g113 959 ((g113 959) + 1)) (fun g114 => (bnd (upd g114 (1041 + (g114 1040)).toNatClampNeg ((g114 14) + (g114 3))) (fun g116 => (bnd (upd g116 1040 ((g116 1040) + 1)) (fun g117 => (bnd (upd g117 12 ((g117 12) + 1)) (fun g118 => (if (g118 12) < (g118 4) then (0, g118) else (bnd (upd g118 12 0) (fun g120 => (bnd (fx4_alarms g120 1) (fun g121 => (0, g121))))))))))))))))))))))))))) else (bnd (fx4_counts g 13) (fun g127 => (bnd (fx4_leaves g127 x1 2) (fun g128 => (bnd (fx4_itemAt g128 (g128 10)) (fun v129 => (if v129 = (-1) then (bnd (upd g128 (1041 + (g128 1040)).toNatClampNeg ((g128 14) + (g128 3))) (fun g132 => (bnd (upd g132 1040 ((g132 1040) + 1)) (fun g133 => (bnd (upd g133 12 ((g133 12) + 1)) (fun g134 => (if (g134 12) < (g134 4) then (0, g134) else (bnd (upd g134 12 0) (fun g136 => (bnd (fx4_alarms g136 1) (fun g137 => (0, g137)))))))))))) else (bnd (fx4_drops g128 36 37 4 v129) (fun g139 => (bnd (upd g139 35 ((g139 35) + 1)) (fun g140 => (bnd (upd g140 (960 + (g140 959)).toNatClampNeg ((g140 14) + (g140 2))) (fun g142 => (bnd (upd g142 959 ((g142 959) + 1)) (fun g143 => (bnd (upd g143 (1041 + (g143 1040)).toNatClampNeg ((g143 14) + (g143 3))) (fun g145 => (bnd (upd g145 1040 ((g145 1040) + 1)) (fun g146 => (bnd (upd g146 12 ((g146 12) + 1)) (fun g147 => (if (g147 12) < (g147 4) then (0, g147) else (bnd (upd g147 12 0) (fun g149 => (bnd (fx4_alarms g149 1) (fun g150 => (0, g150)))))))))))))))))))))))))))))))
def sx4_gates (g : (Nat → Int32)) (x1 : Int32) : Prop := (vp_in (fx4_entry x1 2) 1203 ∧ (vp_in (fx4_entry x1 3) 1203 ∧ (if (g (fx4_entry x1 3).toNatClampNeg) = 1 then (if (g (fx4_entry x1 2).toNatClampNeg) = 1 then (sx4_counts g 10 ∧ (bnd (fx4_counts g 10) (fun g5 => (sx4_leaves g5 x1 2 ∧ (bnd (fx4_leaves g5 x1 2) (fun g6 => (sx4_itemAt g6 (g6 10) ∧ (bnd (fx4_itemAt g6 (g6 10)) (fun v7 => (if v7 = (-1) then (vp_in (1041 + (g6 1040)) 1203 ∧ (bnd (upd g6 (1041 + (g6 1040)).toNatClampNeg ((g6 14) + (g6 3))) (fun g10 => (bnd (upd g10 1040 ((g10 1040) + 1)) (fun g11 => (bnd (upd g11 12 ((g11 12) + 1)) (fun g12 => (if (g12 12) < (g12 4) then True else (bnd (upd g12 12 0) (fun g14 => sx4_alarms g14 1)))))))))) else (sx4_drops g6 36 37 4 v7 ∧ (bnd (fx4_drops g6 36 37 4 v7) (fun g17 => (bnd (upd g17 35 ((g17 35) + 1)) (fun g18 => (vp_in (960 + (g18 959)) 1203 ∧ (bnd (upd g18 (960 + (g18 959)).toNatClampNeg ((g18 14) + (g18 2))) (fun g20 => (bnd (upd g20 959 ((g20 959) + 1)) (fun g21 => (vp_in (1041 + (g21 1040)) 1203 ∧ (bnd (upd g21 (1041 + (g21 1040)).toNatClampNeg ((g21 14) + (g21 3))) (fun g23 => (bnd (upd g23 1040 ((g23 1040) + 1)) (fun g24 => (bnd (upd g24 12 ((g24 12) + 1)) (fun g25 => (if (g25 12) < (g25 4) then True else (bnd (upd g25 12 0) (fun g27 => sx4_alarms g27 1)))))))))))))))))))))))))))))) else (sx4_counts g 10 ∧ (bnd (fx4_counts g 10) (fun g34 => (sx4_leaves g34 x1 2 ∧ (bnd (fx4_leaves g34 x1 2) (fun g35 => (sx4_itemAt g35 (g35 10) ∧ (bnd (fx4_itemAt g35 (g35 10)) (fun v36 => (if v36 = (-1) then (vp_in (1041 + (g35 1040)) 1203 ∧ (bnd (upd g35 (1041 + (g35 1040)).toNatClampNeg ((g35 14) + (g35 3))) (fun g39 => (bnd (upd g39 1040 ((g39 1040) + 1)) (fun g40 => (bnd (upd g40 12 ((g40 12) + 1)) (fun g41 => (if (g41 12) < (g41 4) then True else (bnd (upd g41 12 0) (fun g43 => sx4_alarms g43 1)))))))))) else (sx4_drops g35 36 37 4 v36 ∧ (bnd (fx4_drops g35 36 37 4 v36) (fun g46 => (bnd (upd g46 35 ((g46 35) + 1)) (fun g47 => (vp_in (960 + (g47 959)) 1203 ∧ (bnd (upd g47 (960 + (g47 959)).toNatClampNeg ((g47 14) + (g47 2))) (fun g49 => (bnd (upd g49 959 ((g49 959) + 1)) (fun g50 => (vp_in (1041 + (g50 1040)) 1203 ∧ (bnd (upd g50 (1041 + (g50 1040)).toNatClampNeg ((g50 14) + (g50 3))) (fun g52 => (bnd (upd g52 1040 ((g52 1040) + 1)) (fun g53 => (bnd (upd g53 12 ((g53 12) + 1)) (fun g54 => (if (g54 12) < (g54 4) then True else (bnd (upd g54 12 0) (fun g56 => sx4_alarms g56 1))))))))))))))))))))))))))))))) else (if (g (fx4_entry x1 2).toNatClampNeg) = 1 then vp_in (fx4_entry x1 4) 1203 else (if (g (fx4_entry x1 2).toNatClampNeg) = 2 then (sx4_counts g 11 ∧ (bnd (fx4_counts g 11) (fun g68 => (sx4_leaves g68 x1 2 ∧ (bnd (fx4_leaves g68 x1 2) (fun g69 => (sx4_itemAt g69 (g69 10) ∧ (bnd (fx4_itemAt g69 (g69 10)) (fun v70 => (if v70 = (-1) then (vp_in (1041 + (g69 1040)) 1203 ∧ (bnd (upd g69 (1041 + (g69 1040)).toNatClampNeg ((g69 14) + (g69 3))) (fun g73 => (bnd (upd g73 1040 ((g73 1040) + 1)) (fun g74 => (bnd (upd g74 12 ((g74 12) + 1)) (fun g75 => (if (g75 12) < (g75 4) then True else (bnd (upd g75 12 0) (fun g77 => sx4_alarms g77 1)))))))))) else (sx4_drops g69 36 37 4 v70 ∧ (bnd (fx4_drops g69 36 37 4 v70) (fun g80 => (bnd (upd g80 35 ((g80 35) + 1)) (fun g81 => (vp_in (960 + (g81 959)) 1203 ∧ (bnd (upd g81 (960 + (g81 959)).toNatClampNeg ((g81 14) + (g81 2))) (fun g83 => (bnd (upd g83 959 ((g83 959) + 1)) (fun g84 => (vp_in (1041 + (g84 1040)) 1203 ∧ (bnd (upd g84 (1041 + (g84 1040)).toNatClampNeg ((g84 14) + (g84 3))) (fun g86 => (bnd (upd g86 1040 ((g86 1040) + 1)) (fun g87 => (bnd (upd g87 12 ((g87 12) + 1)) (fun g88 => (if (g88 12) < (g88 4) then True else (bnd (upd g88 12 0) (fun g90 => sx4_alarms g90 1)))))))))))))))))))))))))))))) else (if (g (fx4_entry x1 2).toNatClampNeg) = 3 then (sx4_counts g 12 ∧ (bnd (fx4_counts g 12) (fun g98 => (sx4_leaves g98 x1 2 ∧ (bnd (fx4_leaves g98 x1 2) (fun g99 => (sx4_itemAt g99 (g99 10) ∧ (bnd (fx4_itemAt g99 (g99 10)) (fun v100 => (if v100 = (-1) then (vp_in (1041 + (g99 1040)) 1203 ∧ (bnd (upd g99 (1041 + (g99 1040)).toNatClampNeg ((g99 14) + (g99 3))) (fun g103 => (bnd (upd g103 1040 ((g103 1040) + 1)) (fun g104 => (bnd (upd g104 12 ((g104 12) + 1)) (fun g105 => (if (g105 12) < (g105 4) then True else (bnd (upd g105 12 0) (fun g107 => sx4_alarms g107 1)))))))))) else (sx4_drops g99 36 37 4 v100 ∧ (bnd (fx4_drops g99 36 37 4 v100) (fun g110 => (bnd (upd g110 35 ((g110 35) + 1)) (fun g111 => (vp_in (960 + (g111 959)) 1203 ∧ (bnd (upd g111 (960 + (g111 959)).toNatClampNeg ((g111 14) + (g111 2))) (fun g113 => (bnd (upd g113 959 ((g113 959) + 1)) (fun g114 => (vp_in (1041 + (g114 1040)) 1203 ∧ (bnd (upd g114 (1041 + (g114 1040)).toNatClampNeg ((g114 14) + (g114 3))) (fun g116 => (bnd (upd g116 1040 ((g116 1040) + 1)) (fun g117 => (bnd (upd g117 12 ((g117 12) + 1)) (fun g118 => (if (g118 12) < (g118 4) then True else (bnd (upd g118 12 0) (fun g120 => sx4_alarms g120 1)))))))))))))))))))))))))))))) else (sx4_counts g 13 ∧ (bnd (fx4_counts g 13) (fun g127 => (sx4_leaves g127 x1 2 ∧ (bnd (fx4_leaves g127 x1 2) (fun g128 => (sx4_itemAt g128 (g128 10) ∧ (bnd (fx4_itemAt g128 (g128 10)) (fun v129 => (if v129 = (-1) then (vp_in (1041 + (g128 1040)) 1203 ∧ (bnd (upd g128 (1041 + (g128 1040)).toNatClampNeg ((g128 14) + (g128 3))) (fun g132 => (bnd (upd g132 1040 ((g132 1040) + 1)) (fun g133 => (bnd (upd g133 12 ((g133 12) + 1)) (fun g134 => (if (g134 12) < (g134 4) then True else (bnd (upd g134 12 0) (fun g136 => sx4_alarms g136 1)))))))))) else (sx4_drops g128 36 37 4 v129 ∧ (bnd (fx4_drops g128 36 37 4 v129) (fun g139 => (bnd (upd g139 35 ((g139 35) + 1)) (fun g140 => (vp_in (960 + (g140 959)) 1203 ∧ (bnd (upd g140 (960 + (g140 959)).toNatClampNeg ((g140 14) + (g140 2))) (fun g142 => (bnd (upd g142 959 ((g142 959) + 1)) (fun g143 => (vp_in (1041 + (g143 1040)) 1203 ∧ (bnd (upd g143 (1041 + (g143 1040)).toNatClampNeg ((g143 14) + (g143 3))) (fun g145 => (bnd (upd g145 1040 ((g145 1040) + 1)) (fun g146 => (bnd (upd g146 12 ((g146 12) + 1)) (fun g147 => (if (g147 12) < (g147 4) then True else (bnd (upd g147 12 0) (fun g149 => sx4_alarms g149 1))))))))))))))))))))))))))))))))))))
set_option maxHeartbeats 4000000 in
set_option maxRecDepth 100000 in
theorem cx4_gates {l : Launch} {D : va_G} {cI cB cS cJ : ClassId} {K : State → Prop} (E : kE D cI cB cS cJ K) (am : Nat → Nat) (sv rf ln : Int32) (hs : Int64) (g : (Nat → Int32)) (x1 : Int32) (hF : sx4_gates g x1) : kI l D K yX4_gates wsX4_gates 2 47 [.ref (am 0), .int x1] (mnW cI am sv rf ln hs g) (fx4_gates g x1).1 (mnW cI am sv rf ln hs (fx4_gates g x1).2) := by
  refine kI_of (own := RX4) (cc := cX4_gates) (maxL := 5) (tys := kty cI cB cS cJ) (fun U h => (E.2 U h).1) (by decide) rfl rfl (Nat.le_of_ble_eq_true rfl) ?_
  intro p e s m below meth c A ls hx hb hr hml hts hown hlk hKs hK hP hD hA hS hl
  have hl : lv_has ls 5 [(0, .ref (am 0)), (1, .int x1)] := hl
  have hX : CallFix p m c cX4_gates 5 s _ wsX4_gates RX4 := ⟨hx, hb, hml, hown, hts⟩
  have hinX4 : ∀ w ∈ wsX40, w ∈ wsX4_gates := fun w h => List.mem_cons_of_mem _ (List.mem_append_right _ h)
  have q1 := hts (.fieldLink RX4 7 "LabelStationModel" "now" "[I") (List.mem_of_getElem? (i := 1) rfl)
  generalize hR : fx4_gates g x1 = R
  rw [fx4_gates] at hR
  rw [sx4_gates] at hF
  refine lv_aload_n hx hb dX4_gates_0 rfl (lv_at hl 0 rfl) ?_
  refine va_get (D := D) (ci := 4) (v := .ref (am 1)) (C := RX4) (T := TX4) (N := 8) hx hb hts hinX4 hown hK hP 0 rfl rfl 0 (by decide) q1 (fun _ h9 => h9) rfl dX4_gates_1 ?_
  refine lv_iload_n hx hb dX4_gates_4 rfl (lv_at hl 1 rfl) ?_
  refine lv_iconst (v := 2) hx hb dX4_gates_5 (by decide) ?_
  refine kcsI (As := [.int x1, .int 2]) (rest := [.ref (am 1)]) E.1 (cx4_entry E x1 2) hX (va_cwS 2 hts gX4_gates_X4_entry rfl rfl rfl hdX4_entry.2 ⟨Nat.le_of_ble_eq_true rfl, Nat.le_of_ble_eq_true rfl⟩) hKs hP hD hS hA _ _ (kw_nil _) (kw_nil _).symm rfl rfl hl.1 (Nat.le_of_ble_eq_true rfl) dX4_gates_6 ⟨Nat.zero_le _, Nat.zero_le _⟩ (fun H locs hP hD hS => ?_)
  obtain ⟨hi1, hF⟩ := hF
  refine va_iald hx hb hK hP 1 0 rfl rfl hi1 dX4_gates_9 ?_
  refine lv_istore_n (lv' := [(2, .int (g (fx4_entry x1 2).toNatClampNeg)), (0, .ref (am 0)), (1, .int x1)]) hx hb dX4_gates_10 rfl hl (by decide) rfl (fun ls hl => ?_)
  refine lv_aload_n hx hb dX4_gates_11 rfl (lv_at hl 1 rfl) ?_
  refine va_get (D := D) (ci := 4) (v := .ref (am 1)) (C := RX4) (T := TX4) (N := 8) hx hb hts hinX4 hown hK hP 0 rfl rfl 0 (by decide) q1 (fun _ h9 => h9) rfl dX4_gates_12 ?_
  refine lv_iload_n hx hb dX4_gates_15 rfl (lv_at hl 2 rfl) ?_
  refine lv_iconst (v := 3) hx hb dX4_gates_16 (by decide) ?_
  refine kcsI (As := [.int x1, .int 3]) (rest := [.ref (am 1)]) E.1 (cx4_entry E x1 3) hX (va_cwS 2 hts gX4_gates_X4_entry rfl rfl rfl hdX4_entry.2 ⟨Nat.le_of_ble_eq_true rfl, Nat.le_of_ble_eq_true rfl⟩) hKs hP hD hS hA _ _ (kw_nil _) (kw_nil _).symm rfl rfl hl.1 (Nat.le_of_ble_eq_true rfl) dX4_gates_17 ⟨Nat.zero_le _, Nat.zero_le _⟩ (fun H locs hP hD hS => ?_)
  obtain ⟨hi2, hF⟩ := hF
  refine va_iald hx hb hK hP 1 0 rfl rfl hi2 dX4_gates_20 ?_
  refine lv_iconst (v := 1) hx hb dX4_gates_21 (by decide) ?_
  refine lv_icmp_ne (tgt := 29) hx hb dX4_gates_22 (by decide) (fun c3 => ?_) (fun c3 => ?_)
  · rw [if_neg c3] at hR hF
    refine lv_iconst (v := 0) hx hb dX4_gates_29 (by decide) ?_
    refine lv_istore_n (lv' := [(3, .int 0), (2, .int (g (fx4_entry x1 2).toNatClampNeg)), (0, .ref (am 0)), (1, .int x1)]) hx hb dX4_gates_30 rfl hl (by decide) rfl (fun ls hl => ?_)
    refine lv_iload_n hx hb dX4_gates_31 rfl (lv_at hl 1 rfl) ?_
    refine lv_iconst (v := 1) hx hb dX4_gates_32 (by decide) ?_
    refine lv_icmp_ne (tgt := 61) hx hb dX4_gates_33 (by decide) (fun c63 => ?_) (fun c63 => ?_)
    · rw [if_neg c63] at hR hF
      refine lv_aload_n hx hb dX4_gates_61 rfl (lv_at hl 2 rfl) ?_
      refine lv_iload_n hx hb dX4_gates_62 rfl (lv_at hl 0 rfl) ?_
      refine lv_if_eq (tgt := 71) hx hb dX4_gates_63 (by decide) (fun _ => ?_) (fun c => absurd (by decide) c)
      refine lv_iload_n hx hb dX4_gates_71 rfl (lv_at hl 1 rfl) ?_
      refine lv_iconst (v := 2) hx hb dX4_gates_72 (by decide) ?_
      refine lv_icmp_ne (tgt := 81) hx hb dX4_gates_73 (by decide) (fun c67 => ?_) (fun c67 => ?_)
      · rw [if_neg c67] at hR hF
        refine lv_iload_n hx hb dX4_gates_81 rfl (lv_at hl 1 rfl) ?_
        refine lv_iconst (v := 3) hx hb dX4_gates_82 (by decide) ?_
        refine lv_icmp_ne (tgt := 91) hx hb dX4_gates_83 (by decide) (fun c97 => ?_) (fun c97 => ?_)
        · rw [if_neg c97] at hR hF
          refine lv_bipush (v := 13) hx hb dX4_gates_91 (by decide) ?_
          obtain ⟨hs155, hF⟩ := hF
          refine kcV (ci := 4) (q0 := 0) (As := [.int 13]) (rest := []) E.1 (cx4_counts E am sv rf ln hs g 13 hs155) hX (cwV 1 hts gX4_gates_X4_counts rfl rfl rfl hdX4_counts ⟨Nat.le_of_ble_eq_true rfl, Nat.le_of_ble_eq_true rfl⟩) hKs hK hP hD hS hA _ _ (kw_self _) (kw_self _).symm rfl rfl rfl rfl hl.1 (Nat.le_of_ble_eq_true rfl) dX4_gates_93 ⟨Nat.zero_le _, Nat.zero_le _⟩ (fun H locs hP hD hS => ?_)
          have hP : va_P D vwCl (mnW cI am sv rf ln hs (fx4_counts g 13)) H := hP
          have hD : va_D A (mnW cI am sv rf ln hs (fx4_counts g 13)) := hD
          generalize eg127 : fx4_counts g 13 = g127 at hR hF hP hD
          replace hR := bnd_e hR
          replace hF := bnd_p hF
          refine lv_aload_n hx hb dX4_gates_96 rfl (lv_at hl 2 rfl) ?_
          refine lv_iload_n hx hb dX4_gates_97 rfl (lv_at hl 3 rfl) ?_
          refine lv_iconst (v := 2) hx hb dX4_gates_98 (by decide) ?_
          obtain ⟨hs154, hF⟩ := hF
          refine kcV (ci := 4) (q0 := 0) (As := [.int x1, .int 2]) (rest := []) E.1 (cx4_leaves E am sv rf ln hs g127 x1 2 hs154) hX (cwV 2 hts gX4_gates_X4_leaves rfl rfl rfl hdX4_leaves ⟨Nat.le_of_ble_eq_true rfl, Nat.le_of_ble_eq_true rfl⟩) hKs hK hP hD hS hA _ _ (kw_self _) (kw_self _).symm rfl rfl rfl rfl hl.1 (Nat.le_of_ble_eq_true rfl) dX4_gates_99 ⟨Nat.zero_le _, Nat.zero_le _⟩ (fun H locs hP hD hS => ?_)
          have hP : va_P D vwCl (mnW cI am sv rf ln hs (fx4_leaves g127 x1 2)) H := hP
          have hD : va_D A (mnW cI am sv rf ln hs (fx4_leaves g127 x1 2)) := hD
          generalize eg128 : fx4_leaves g127 x1 2 = g128 at hR hF hP hD
          replace hR := bnd_e hR
          replace hF := bnd_p hF
          refine lv_aload_n hx hb dX4_gates_102 rfl (lv_at hl 2 rfl) ?_
          refine lv_aload_n hx hb dX4_gates_103 rfl (lv_at hl 2 rfl) ?_
          refine va_get (D := D) (ci := 4) (v := .ref (am 1)) (C := RX4) (T := TX4) (N := 8) hx hb hts hinX4 hown hK hP 0 rfl rfl 0 (by decide) q1 (fun _ h9 => h9) rfl dX4_gates_104 ?_
          refine lv_bipush (v := 10) hx hb dX4_gates_107 (by decide) ?_
          refine va_iald hx hb hK hP 1 0 rfl rfl (kin_lit (j := 10) (n := 1203) (by decide) (by decide)) dX4_gates_109 ?_
          refine kw_top (v := .int (g128 10)) rfl ?_
          obtain ⟨hs153, hF⟩ := hF
          refine kcI (ci := 4) (q0 := 0) (As := [.int (g128 10)]) (rest := []) E.1 (cx4_itemAt E am sv rf ln hs g128 (g128 10) hs153) hX (cwV 1 hts gX4_gates_X4_itemAt rfl rfl rfl hdX4_itemAt ⟨Nat.le_of_ble_eq_true rfl, Nat.le_of_ble_eq_true rfl⟩) hKs hK hP hD hS hA _ _ (kw_self _) (kw_self _).symm rfl rfl rfl rfl hl.1 (Nat.le_of_ble_eq_true rfl) dX4_gates_110 ⟨Nat.zero_le _, Nat.zero_le _⟩ (fun H locs hP hD hS => ?_)
          generalize ev129 : fx4_itemAt g128 (g128 10) = v129 at hR hF ⊢
          replace hR := bnd_e hR
          replace hF := bnd_p hF
          refine lv_istore (lv' := [(4, .int v129), (3, .int 0), (2, .int (g (fx4_entry x1 2).toNatClampNeg)), (0, .ref (am 0)), (1, .int x1)]) hx hb dX4_gates_113 hl (by decide) rfl (fun ls hl => ?_)
          refine lv_iload hx hb dX4_gates_115 (lv_at hl 0 rfl) ?_
          refine lv_iconst (v := (-1)) hx hb dX4_gates_117 (by decide) ?_
          refine lv_icmp_eq (tgt := 186) hx hb dX4_gates_118 (by decide) (fun c130 => ?_) (fun c130 => ?_)
          · rw [if_pos c130] at hR hF
            refine lv_aload_n hx hb dX4_gates_186 rfl (lv_at hl 3 rfl) ?_
            refine va_get (D := D) (ci := 4) (v := .ref (am 1)) (C := RX4) (T := TX4) (N := 8) hx hb hts hinX4 hown hK hP 0 rfl rfl 0 (by decide) q1 (fun _ h9 => h9) rfl dX4_gates_187 ?_
            refine lv_sipush (v := 1041) hx hb dX4_gates_190 (by decide) ?_
            refine lv_aload_n hx hb dX4_gates_193 rfl (lv_at hl 3 rfl) ?_
            refine va_get (D := D) (ci := 4) (v := .ref (am 1)) (C := RX4) (T := TX4) (N := 8) hx hb hts hinX4 hown hK hP 0 rfl rfl 0 (by decide) q1 (fun _ h9 => h9) rfl dX4_gates_194 ?_
            refine lv_sipush (v := 1040) hx hb dX4_gates_197 (by decide) ?_
            refine va_iald hx hb hK hP 1 0 rfl rfl (kin_lit (j := 1040) (n := 1203) (by decide) (by decide)) dX4_gates_200 ?_
            refine kw_top (v := .int (g128 1040)) rfl ?_
            refine lv_iadd hx hb dX4_gates_201 ?_
            refine lv_aload_n hx hb dX4_gates_202 rfl (lv_at hl 3 rfl) ?_
            refine va_get (D := D) (ci := 4) (v := .ref (am 1)) (C := RX4) (T := TX4) (N := 8) hx hb hts hinX4 hown hK hP 0 rfl rfl 0 (by decide) q1 (fun _ h9 => h9) rfl dX4_gates_203 ?_
            refine lv_bipush (v := 14) hx hb dX4_gates_206 (by decide) ?_
            refine va_iald hx hb hK hP 1 0 rfl rfl (kin_lit (j := 14) (n := 1203) (by decide) (by decide)) dX4_gates_208 ?_
            refine kw_top (v := .int (g128 14)) rfl ?_
            refine lv_aload_n hx hb dX4_gates_209 rfl (lv_at hl 3 rfl) ?_
            refine va_get (D := D) (ci := 4) (v := .ref (am 1)) (C := RX4) (T := TX4) (N := 8) hx hb hts hinX4 hown hK hP 0 rfl rfl 0 (by decide) q1 (fun _ h9 => h9) rfl dX4_gates_210 ?_
            refine lv_iconst (v := 3) hx hb dX4_gates_213 (by decide) ?_
            refine va_iald hx hb hK hP 1 0 rfl rfl (kin_lit (j := 3) (n := 1203) (by decide) (by decide)) dX4_gates_214 ?_
            refine kw_top (v := .int (g128 3)) rfl ?_
            refine lv_iadd hx hb dX4_gates_215 ?_
            obtain ⟨hi131, hF⟩ := hF
            refine va_iast hx hb hK hP hD hS 1 0 rfl rfl hi131 dX4_gates_216 (fun H locs hP hD hS => ?_)
            have hP : va_P D vwCl (mnW cI am sv rf ln hs (upd g128 (1041 + (g128 1040)).toNatClampNeg ((g128 14) + (g128 3)))) H := hP
            have hD : va_D A (mnW cI am sv rf ln hs (upd g128 (1041 + (g128 1040)).toNatClampNeg ((g128 14) + (g128 3)))) := hD
            generalize eg132 : upd g128 (1041 + (g128 1040)).toNatClampNeg ((g128 14) + (g128 3)) = g132 at hR hP hD hF
            replace hR := bnd_e hR
            replace hF := bnd_p hF
            refine lv_aload_n hx hb dX4_gates_217 rfl (lv_at hl 3 rfl) ?_
            refine va_get (D := D) (ci := 4) (v := .ref (am 1)) (C := RX4) (T := TX4) (N := 8) hx hb hts hinX4 hown hK hP 0 rfl rfl 0 (by decide) q1 (fun _ h9 => h9) rfl dX4_gates_218 ?_
            refine lv_sipush (v := 1040) hx hb dX4_gates_221 (by decide) ?_
            refine lv_dup2_11 hx hb dX4_gates_224 rfl rfl ?_
            refine va_iald hx hb hK hP 1 0 rfl rfl (kin_lit (j := 1040) (n := 1203) (by decide) (by decide)) dX4_gates_225 ?_
            refine kw_top (v := .int (g132 1040)) rfl ?_
            refine lv_iconst (v := 1) hx hb dX4_gates_226 (by decide) ?_
            refine lv_iadd hx hb dX4_gates_227 ?_
            refine va_iast hx hb hK hP hD hS 1 0 rfl rfl (kin_lit (j := 1040) (n := 1203) (by decide) (by decide)) dX4_gates_228 (fun H locs hP hD hS => ?_)
            have hP : va_P D vwCl (mnW cI am sv rf ln hs (upd g132 1040 ((g132 1040) + 1))) H := hP
            have hD : va_D A (mnW cI am sv rf ln hs (upd g132 1040 ((g132 1040) + 1))) := hD
            generalize eg133 : upd g132 1040 ((g132 1040) + 1) = g133 at hR hP hD hF
            replace hR := bnd_e hR
            replace hF := bnd_p hF
            refine lv_aload_n hx hb dX4_gates_229 rfl (lv_at hl 3 rfl) ?_
            refine va_get (D := D) (ci := 4) (v := .ref (am 1)) (C := RX4) (T := TX4) (N := 8) hx hb hts hinX4 hown hK hP 0 rfl rfl 0 (by decide) q1 (fun _ h9 => h9) rfl dX4_gates_230 ?_
            refine lv_bipush (v := 12) hx hb dX4_gates_233 (by decide) ?_
            refine lv_dup2_11 hx hb dX4_gates_235 rfl rfl ?_
            refine va_iald hx hb hK hP 1 0 rfl rfl (kin_lit (j := 12) (n := 1203) (by decide) (by decide)) dX4_gates_236 ?_
            refine kw_top (v := .int (g133 12)) rfl ?_
            refine lv_iconst (v := 1) hx hb dX4_gates_237 (by decide) ?_
            refine lv_iadd hx hb dX4_gates_238 ?_
            refine va_iast hx hb hK hP hD hS 1 0 rfl rfl (kin_lit (j := 12) (n := 1203) (by decide) (by decide)) dX4_gates_239 (fun H locs hP hD hS => ?_)
            have hP : va_P D vwCl (mnW cI am sv rf ln hs (upd g133 12 ((g133 12) + 1))) H := hP
            have hD : va_D A (mnW cI am sv rf ln hs (upd g133 12 ((g133 12) + 1))) := hD
            generalize eg134 : upd g133 12 ((g133 12) + 1) = g134 at hR hP hD hF
            replace hR := bnd_e hR
            replace hF := bnd_p hF
            refine lv_aload_n hx hb dX4_gates_240 rfl (lv_at hl 3 rfl) ?_
            refine va_get (D := D) (ci := 4) (v := .ref (am 1)) (C := RX4) (T := TX4) (N := 8) hx hb hts hinX4 hown hK hP 0 rfl rfl 0 (by decide) q1 (fun _ h9 => h9) rfl dX4_gates_241 ?_
            refine lv_bipush (v := 12) hx hb dX4_gates_244 (by decide) ?_
            refine va_iald hx hb hK hP 1 0 rfl rfl (kin_lit (j := 12) (n := 1203) (by decide) (by decide)) dX4_gates_246 ?_
            refine kw_top (v := .int (g134 12)) rfl ?_
            refine lv_aload_n hx hb dX4_gates_247 rfl (lv_at hl 3 rfl) ?_
            refine va_get (D := D) (ci := 4) (v := .ref (am 1)) (C := RX4) (T := TX4) (N := 8) hx hb hts hinX4 hown hK hP 0 rfl rfl 0 (by decide) q1 (fun _ h9 => h9) rfl dX4_gates_248 ?_
            refine lv_iconst (v := 4) hx hb dX4_gates_251 (by decide) ?_
            refine va_iald hx hb hK hP 1 0 rfl rfl (kin_lit (j := 4) (n := 1203) (by decide) (by decide)) dX4_gates_252 ?_
            refine kw_top (v := .int (g134 4)) rfl ?_
            refine lv_icmp_lt (tgt := 269) hx hb dX4_gates_253 (by decide) (fun c135 => ?_) (fun c135 => ?_)
            · rw [if_pos c135] at hR hF
              refine lv_iconst (v := 0) hx hb dX4_gates_269 (by decide) ?_
              subst hR
              exact krZ hx hb hr hlk hP hD hS dX4_gates_270 (by decide) rfl rfl
            · rw [if_neg c135] at hR hF
              refine lv_aload_n hx hb dX4_gates_256 rfl (lv_at hl 3 rfl) ?_
              refine va_get (D := D) (ci := 4) (v := .ref (am 1)) (C := RX4) (T := TX4) (N := 8) hx hb hts hinX4 hown hK hP 0 rfl rfl 0 (by decide) q1 (fun _ h9 => h9) rfl dX4_gates_257 ?_
              refine lv_bipush (v := 12) hx hb dX4_gates_260 (by decide) ?_
              refine lv_iconst (v := 0) hx hb dX4_gates_262 (by decide) ?_
              refine va_iast hx hb hK hP hD hS 1 0 rfl rfl (kin_lit (j := 12) (n := 1203) (by decide) (by decide)) dX4_gates_263 (fun H locs hP hD hS => ?_)
              have hP : va_P D vwCl (mnW cI am sv rf ln hs (upd g134 12 0)) H := hP
              have hD : va_D A (mnW cI am sv rf ln hs (upd g134 12 0)) := hD
              generalize eg136 : upd g134 12 0 = g136 at hR hP hD hF
              replace hR := bnd_e hR
              replace hF := bnd_p hF
              refine lv_aload_n hx hb dX4_gates_264 rfl (lv_at hl 3 rfl) ?_
              refine lv_iconst (v := 1) hx hb dX4_gates_265 (by decide) ?_
              have hs138 := hF
              refine kcV (ci := 4) (q0 := 0) (As := [.int 1]) (rest := []) E.1 (cx4_alarms E am sv rf ln hs g136 1 hs138) hX (cwV 1 hts gX4_gates_X4_alarms rfl rfl rfl hdX4_alarms ⟨Nat.le_of_ble_eq_true rfl, Nat.le_of_ble_eq_true rfl⟩) hKs hK hP hD hS hA _ _ (kw_self _) (kw_self _).symm rfl rfl rfl rfl hl.1 (Nat.le_of_ble_eq_true rfl) dX4_gates_266 ⟨Nat.zero_le _, Nat.zero_le _⟩ (fun H locs hP hD hS => ?_)
              have hP : va_P D vwCl (mnW cI am sv rf ln hs (fx4_alarms g136 1)) H := hP
              have hD : va_D A (mnW cI am sv rf ln hs (fx4_alarms g136 1)) := hD
              generalize eg137 : fx4_alarms g136 1 = g137 at hR hP hD
              replace hR := bnd_e hR
              refine lv_iconst (v := 0) hx hb dX4_gates_269 (by decide) ?_
              subst hR
              exact krZ hx hb hr hlk hP hD hS dX4_gates_270 (by decide) rfl rfl
          · rw [if_neg c130] at hR hF
            refine lv_aload_n hx hb dX4_gates_121 rfl (lv_at hl 3 rfl) ?_
            refine lv_bipush (v := 36) hx hb dX4_gates_122 (by decide) ?_
            refine lv_bipush (v := 37) hx hb dX4_gates_124 (by decide) ?_
            refine lv_iconst (v := 4) hx hb dX4_gates_126 (by decide) ?_
            refine lv_iload hx hb dX4_gates_127 (lv_at hl 0 rfl) ?_
            obtain ⟨hs152, hF⟩ := hF
            refine kcV (ci := 4) (q0 := 0) (As := [.int 36, .int 37, .int 4, .int v129]) (rest := []) E.1 (cx4_drops E am sv rf ln hs g128 36 37 4 v129 hs152) hX (cwV 4 hts gX4_gates_X4_drops rfl rfl rfl hdX4_drops ⟨Nat.le_of_ble_eq_true rfl, Nat.le_of_ble_eq_true rfl⟩) hKs hK hP hD hS hA _ _ (kw_self _) (kw_self _).symm rfl rfl rfl rfl hl.1 (Nat.le_of_ble_eq_true rfl) dX4_gates_129 ⟨Nat.zero_le _, Nat.zero_le _⟩ (fun H locs hP hD hS => ?_)
            have hP : va_P D vwCl (mnW cI am sv rf ln hs (fx4_drops g128 36 37 4 v129)) H := hP
            have hD : va_D A (mnW cI am sv rf ln hs (fx4_drops g128 36 37 4 v129)) := hD
            generalize eg139 : fx4_drops g128 36 37 4 v129 = g139 at hR hF hP hD
            replace hR := bnd_e hR
            replace hF := bnd_p hF
            refine lv_aload_n hx hb dX4_gates_132 rfl (lv_at hl 3 rfl) ?_
            refine va_get (D := D) (ci := 4) (v := .ref (am 1)) (C := RX4) (T := TX4) (N := 8) hx hb hts hinX4 hown hK hP 0 rfl rfl 0 (by decide) q1 (fun _ h9 => h9) rfl dX4_gates_133 ?_
            refine lv_bipush (v := 35) hx hb dX4_gates_136 (by decide) ?_
            refine lv_dup2_11 hx hb dX4_gates_138 rfl rfl ?_
            refine va_iald hx hb hK hP 1 0 rfl rfl (kin_lit (j := 35) (n := 1203) (by decide) (by decide)) dX4_gates_139 ?_
            refine kw_top (v := .int (g139 35)) rfl ?_
            refine lv_iconst (v := 1) hx hb dX4_gates_140 (by decide) ?_
            refine lv_iadd hx hb dX4_gates_141 ?_
            refine va_iast hx hb hK hP hD hS 1 0 rfl rfl (kin_lit (j := 35) (n := 1203) (by decide) (by decide)) dX4_gates_142 (fun H locs hP hD hS => ?_)
            have hP : va_P D vwCl (mnW cI am sv rf ln hs (upd g139 35 ((g139 35) + 1))) H := hP
            have hD : va_D A (mnW cI am sv rf ln hs (upd g139 35 ((g139 35) + 1))) := hD
            generalize eg140 : upd g139 35 ((g139 35) + 1) = g140 at hR hP hD hF
            replace hR := bnd_e hR
            replace hF := bnd_p hF
            refine lv_aload_n hx hb dX4_gates_143 rfl (lv_at hl 3 rfl) ?_
            refine va_get (D := D) (ci := 4) (v := .ref (am 1)) (C := RX4) (T := TX4) (N := 8) hx hb hts hinX4 hown hK hP 0 rfl rfl 0 (by decide) q1 (fun _ h9 => h9) rfl dX4_gates_144 ?_
            refine lv_sipush (v := 960) hx hb dX4_gates_147 (by decide) ?_
            refine lv_aload_n hx hb dX4_gates_150 rfl (lv_at hl 3 rfl) ?_
            refine va_get (D := D) (ci := 4) (v := .ref (am 1)) (C := RX4) (T := TX4) (N := 8) hx hb hts hinX4 hown hK hP 0 rfl rfl 0 (by decide) q1 (fun _ h9 => h9) rfl dX4_gates_151 ?_
            refine lv_sipush (v := 959) hx hb dX4_gates_154 (by decide) ?_
            refine va_iald hx hb hK hP 1 0 rfl rfl (kin_lit (j := 959) (n := 1203) (by decide) (by decide)) dX4_gates_157 ?_
            refine kw_top (v := .int (g140 959)) rfl ?_
            refine lv_iadd hx hb dX4_gates_158 ?_
            refine lv_aload_n hx hb dX4_gates_159 rfl (lv_at hl 3 rfl) ?_
            refine va_get (D := D) (ci := 4) (v := .ref (am 1)) (C := RX4) (T := TX4) (N := 8) hx hb hts hinX4 hown hK hP 0 rfl rfl 0 (by decide) q1 (fun _ h9 => h9) rfl dX4_gates_160 ?_
            refine lv_bipush (v := 14) hx hb dX4_gates_163 (by decide) ?_
            refine va_iald hx hb hK hP 1 0 rfl rfl (kin_lit (j := 14) (n := 1203) (by decide) (by decide)) dX4_gates_165 ?_
            refine kw_top (v := .int (g140 14)) rfl ?_
            refine lv_aload_n hx hb dX4_gates_166 rfl (lv_at hl 3 rfl) ?_
            refine va_get (D := D) (ci := 4) (v := .ref (am 1)) (C := RX4) (T := TX4) (N := 8) hx hb hts hinX4 hown hK hP 0 rfl rfl 0 (by decide) q1 (fun _ h9 => h9) rfl dX4_gates_167 ?_
            refine lv_iconst (v := 2) hx hb dX4_gates_170 (by decide) ?_
            refine va_iald hx hb hK hP 1 0 rfl rfl (kin_lit (j := 2) (n := 1203) (by decide) (by decide)) dX4_gates_171 ?_
            refine kw_top (v := .int (g140 2)) rfl ?_
            refine lv_iadd hx hb dX4_gates_172 ?_
            obtain ⟨hi141, hF⟩ := hF
            refine va_iast hx hb hK hP hD hS 1 0 rfl rfl hi141 dX4_gates_173 (fun H locs hP hD hS => ?_)
            have hP : va_P D vwCl (mnW cI am sv rf ln hs (upd g140 (960 + (g140 959)).toNatClampNeg ((g140 14) + (g140 2)))) H := hP
            have hD : va_D A (mnW cI am sv rf ln hs (upd g140 (960 + (g140 959)).toNatClampNeg ((g140 14) + (g140 2)))) := hD
            generalize eg142 : upd g140 (960 + (g140 959)).toNatClampNeg ((g140 14) + (g140 2)) = g142 at hR hP hD hF
            replace hR := bnd_e hR
            replace hF := bnd_p hF
            refine lv_aload_n hx hb dX4_gates_174 rfl (lv_at hl 3 rfl) ?_
            refine va_get (D := D) (ci := 4) (v := .ref (am 1)) (C := RX4) (T := TX4) (N := 8) hx hb hts hinX4 hown hK hP 0 rfl rfl 0 (by decide) q1 (fun _ h9 => h9) rfl dX4_gates_175 ?_
            refine lv_sipush (v := 959) hx hb dX4_gates_178 (by decide) ?_
            refine lv_dup2_11 hx hb dX4_gates_181 rfl rfl ?_
            refine va_iald hx hb hK hP 1 0 rfl rfl (kin_lit (j := 959) (n := 1203) (by decide) (by decide)) dX4_gates_182 ?_
            refine kw_top (v := .int (g142 959)) rfl ?_
            refine lv_iconst (v := 1) hx hb dX4_gates_183 (by decide) ?_
            refine lv_iadd hx hb dX4_gates_184 ?_
            refine va_iast hx hb hK hP hD hS 1 0 rfl rfl (kin_lit (j := 959) (n := 1203) (by decide) (by decide)) dX4_gates_185 (fun H locs hP hD hS => ?_)
            have hP : va_P D vwCl (mnW cI am sv rf ln hs (upd g142 959 ((g142 959) + 1))) H := hP
            have hD : va_D A (mnW cI am sv rf ln hs (upd g142 959 ((g142 959) + 1))) := hD
            generalize eg143 : upd g142 959 ((g142 959) + 1) = g143 at hR hP hD hF
            replace hR := bnd_e hR
            replace hF := bnd_p hF
            refine lv_aload_n hx hb dX4_gates_186 rfl (lv_at hl 3 rfl) ?_
            refine va_get (D := D) (ci := 4) (v := .ref (am 1)) (C := RX4) (T := TX4) (N := 8) hx hb hts hinX4 hown hK hP 0 rfl rfl 0 (by decide) q1 (fun _ h9 => h9) rfl dX4_gates_187 ?_
            refine lv_sipush (v := 1041) hx hb dX4_gates_190 (by decide) ?_
            refine lv_aload_n hx hb dX4_gates_193 rfl (lv_at hl 3 rfl) ?_
            refine va_get (D := D) (ci := 4) (v := .ref (am 1)) (C := RX4) (T := TX4) (N := 8) hx hb hts hinX4 hown hK hP 0 rfl rfl 0 (by decide) q1 (fun _ h9 => h9) rfl dX4_gates_194 ?_
            refine lv_sipush (v := 1040) hx hb dX4_gates_197 (by decide) ?_
            refine va_iald hx hb hK hP 1 0 rfl rfl (kin_lit (j := 1040) (n := 1203) (by decide) (by decide)) dX4_gates_200 ?_
            refine kw_top (v := .int (g143 1040)) rfl ?_
            refine lv_iadd hx hb dX4_gates_201 ?_
            refine lv_aload_n hx hb dX4_gates_202 rfl (lv_at hl 3 rfl) ?_
            refine va_get (D := D) (ci := 4) (v := .ref (am 1)) (C := RX4) (T := TX4) (N := 8) hx hb hts hinX4 hown hK hP 0 rfl rfl 0 (by decide) q1 (fun _ h9 => h9) rfl dX4_gates_203 ?_
            refine lv_bipush (v := 14) hx hb dX4_gates_206 (by decide) ?_
            refine va_iald hx hb hK hP 1 0 rfl rfl (kin_lit (j := 14) (n := 1203) (by decide) (by decide)) dX4_gates_208 ?_
            refine kw_top (v := .int (g143 14)) rfl ?_
            refine lv_aload_n hx hb dX4_gates_209 rfl (lv_at hl 3 rfl) ?_
            refine va_get (D := D) (ci := 4) (v := .ref (am 1)) (C := RX4) (T := TX4) (N := 8) hx hb hts hinX4 hown hK hP 0 rfl rfl 0 (by decide) q1 (fun _ h9 => h9) rfl dX4_gates_210 ?_
            refine lv_iconst (v := 3) hx hb dX4_gates_213 (by decide) ?_
            refine va_iald hx hb hK hP 1 0 rfl rfl (kin_lit (j := 3) (n := 1203) (by decide) (by decide)) dX4_gates_214 ?_
            refine kw_top (v := .int (g143 3)) rfl ?_
            refine lv_iadd hx hb dX4_gates_215 ?_
            obtain ⟨hi144, hF⟩ := hF
            refine va_iast hx hb hK hP hD hS 1 0 rfl rfl hi144 dX4_gates_216 (fun H locs hP hD hS => ?_)
            have hP : va_P D vwCl (mnW cI am sv rf ln hs (upd g143 (1041 + (g143 1040)).toNatClampNeg ((g143 14) + (g143 3)))) H := hP
            have hD : va_D A (mnW cI am sv rf ln hs (upd g143 (1041 + (g143 1040)).toNatClampNeg ((g143 14) + (g143 3)))) := hD
            generalize eg145 : upd g143 (1041 + (g143 1040)).toNatClampNeg ((g143 14) + (g143 3)) = g145 at hR hP hD hF
            replace hR := bnd_e hR
            replace hF := bnd_p hF
            refine lv_aload_n hx hb dX4_gates_217 rfl (lv_at hl 3 rfl) ?_
            refine va_get (D := D) (ci := 4) (v := .ref (am 1)) (C := RX4) (T := TX4) (N := 8) hx hb hts hinX4 hown hK hP 0 rfl rfl 0 (by decide) q1 (fun _ h9 => h9) rfl dX4_gates_218 ?_
            refine lv_sipush (v := 1040) hx hb dX4_gates_221 (by decide) ?_
            refine lv_dup2_11 hx hb dX4_gates_224 rfl rfl ?_
            refine va_iald hx hb hK hP 1 0 rfl rfl (kin_lit (j := 1040) (n := 1203) (by decide) (by decide)) dX4_gates_225 ?_
            refine kw_top (v := .int (g145 1040)) rfl ?_
            refine lv_iconst (v := 1) hx hb dX4_gates_226 (by decide) ?_
            refine lv_iadd hx hb dX4_gates_227 ?_
            refine va_iast hx hb hK hP hD hS 1 0 rfl rfl (kin_lit (j := 1040) (n := 1203) (by decide) (by decide)) dX4_gates_228 (fun H locs hP hD hS => ?_)
            have hP : va_P D vwCl (mnW cI am sv rf ln hs (upd g145 1040 ((g145 1040) + 1))) H := hP
            have hD : va_D A (mnW cI am sv rf ln hs (upd g145 1040 ((g145 1040) + 1))) := hD
            generalize eg146 : upd g145 1040 ((g145 1040) + 1) = g146 at hR hP hD hF
            replace hR := bnd_e hR
            replace hF := bnd_p hF
            refine lv_aload_n hx hb dX4_gates_229 rfl (lv_at hl 3 rfl) ?_
            refine va_get (D := D) (ci := 4) (v := .ref (am 1)) (C := RX4) (T := TX4) (N := 8) hx hb hts hinX4 hown hK hP 0 rfl rfl 0 (by decide) q1 (fun _ h9 => h9) rfl dX4_gates_230 ?_
            refine lv_bipush (v := 12) hx hb dX4_gates_233 (by decide) ?_
            refine lv_dup2_11 hx hb dX4_gates_235 rfl rfl ?_
            refine va_iald hx hb hK hP 1 0 rfl rfl (kin_lit (j := 12) (n := 1203) (by decide) (by decide)) dX4_gates_236 ?_
            refine kw_top (v := .int (g146 12)) rfl ?_
            refine lv_iconst (v := 1) hx hb dX4_gates_237 (by decide) ?_
            refine lv_iadd hx hb dX4_gates_238 ?_
            refine va_iast hx hb hK hP hD hS 1 0 rfl rfl (kin_lit (j := 12) (n := 1203) (by decide) (by decide)) dX4_gates_239 (fun H locs hP hD hS => ?_)
            have hP : va_P D vwCl (mnW cI am sv rf ln hs (upd g146 12 ((g146 12) + 1))) H := hP
            have hD : va_D A (mnW cI am sv rf ln hs (upd g146 12 ((g146 12) + 1))) := hD
            generalize eg147 : upd g146 12 ((g146 12) + 1) = g147 at hR hP hD hF
            replace hR := bnd_e hR
            replace hF := bnd_p hF
            refine lv_aload_n hx hb dX4_gates_240 rfl (lv_at hl 3 rfl) ?_
            refine va_get (D := D) (ci := 4) (v := .ref (am 1)) (C := RX4) (T := TX4) (N := 8) hx hb hts hinX4 hown hK hP 0 rfl rfl 0 (by decide) q1 (fun _ h9 => h9) rfl dX4_gates_241 ?_
            refine lv_bipush (v := 12) hx hb dX4_gates_244 (by decide) ?_
            refine va_iald hx hb hK hP 1 0 rfl rfl (kin_lit (j := 12) (n := 1203) (by decide) (by decide)) dX4_gates_246 ?_
            refine kw_top (v := .int (g147 12)) rfl ?_
            refine lv_aload_n hx hb dX4_gates_247 rfl (lv_at hl 3 rfl) ?_
            refine va_get (D := D) (ci := 4) (v := .ref (am 1)) (C := RX4) (T := TX4) (N := 8) hx hb hts hinX4 hown hK hP 0 rfl rfl 0 (by decide) q1 (fun _ h9 => h9) rfl dX4_gates_248 ?_
            refine lv_iconst (v := 4) hx hb dX4_gates_251 (by decide) ?_
            refine va_iald hx hb hK hP 1 0 rfl rfl (kin_lit (j := 4) (n := 1203) (by decide) (by decide)) dX4_gates_252 ?_
            refine kw_top (v := .int (g147 4)) rfl ?_
            refine lv_icmp_lt (tgt := 269) hx hb dX4_gates_253 (by decide) (fun c148 => ?_) (fun c148 => ?_)
            · rw [if_pos c148] at hR hF
              refine lv_iconst (v := 0) hx hb dX4_gates_269 (by decide) ?_
              subst hR
              exact krZ hx hb hr hlk hP hD hS dX4_gates_270 (by decide) rfl rfl
            · rw [if_neg c148] at hR hF
              refine lv_aload_n hx hb dX4_gates_256 rfl (lv_at hl 3 rfl) ?_
              refine va_get (D := D) (ci := 4) (v := .ref (am 1)) (C := RX4) (T := TX4) (N := 8) hx hb hts hinX4 hown hK hP 0 rfl rfl 0 (by decide) q1 (fun _ h9 => h9) rfl dX4_gates_257 ?_
              refine lv_bipush (v := 12) hx hb dX4_gates_260 (by decide) ?_
              refine lv_iconst (v := 0) hx hb dX4_gates_262 (by decide) ?_
              refine va_iast hx hb hK hP hD hS 1 0 rfl rfl (kin_lit (j := 12) (n := 1203) (by decide) (by decide)) dX4_gates_263 (fun H locs hP hD hS => ?_)
              have hP : va_P D vwCl (mnW cI am sv rf ln hs (upd g147 12 0)) H := hP
              have hD : va_D A (mnW cI am sv rf ln hs (upd g147 12 0)) := hD
              generalize eg149 : upd g147 12 0 = g149 at hR hP hD hF
              replace hR := bnd_e hR
              replace hF := bnd_p hF
              refine lv_aload_n hx hb dX4_gates_264 rfl (lv_at hl 3 rfl) ?_
              refine lv_iconst (v := 1) hx hb dX4_gates_265 (by decide) ?_
              have hs151 := hF
              refine kcV (ci := 4) (q0 := 0) (As := [.int 1]) (rest := []) E.1 (cx4_alarms E am sv rf ln hs g149 1 hs151) hX (cwV 1 hts gX4_gates_X4_alarms rfl rfl rfl hdX4_alarms ⟨Nat.le_of_ble_eq_true rfl, Nat.le_of_ble_eq_true rfl⟩) hKs hK hP hD hS hA _ _ (kw_self _) (kw_self _).symm rfl rfl rfl rfl hl.1 (Nat.le_of_ble_eq_true rfl) dX4_gates_266 ⟨Nat.zero_le _, Nat.zero_le _⟩ (fun H locs hP hD hS => ?_)
              have hP : va_P D vwCl (mnW cI am sv rf ln hs (fx4_alarms g149 1)) H := hP
              have hD : va_D A (mnW cI am sv rf ln hs (fx4_alarms g149 1)) := hD
              generalize eg150 : fx4_alarms g149 1 = g150 at hR hP hD
              replace hR := bnd_e hR
              refine lv_iconst (v := 0) hx hb dX4_gates_269 (by decide) ?_
              subst hR
              exact krZ hx hb hr hlk hP hD hS dX4_gates_270 (by decide) rfl rfl
        · rw [if_pos c97] at hR hF
          refine lv_bipush (v := 12) hx hb dX4_gates_86 (by decide) ?_
          refine lv_goto (tgt := 93) hx hb dX4_gates_88 (by decide) ?_
          obtain ⟨hs126, hF⟩ := hF
          refine kcV (ci := 4) (q0 := 0) (As := [.int 12]) (rest := []) E.1 (cx4_counts E am sv rf ln hs g 12 hs126) hX (cwV 1 hts gX4_gates_X4_counts rfl rfl rfl hdX4_counts ⟨Nat.le_of_ble_eq_true rfl, Nat.le_of_ble_eq_true rfl⟩) hKs hK hP hD hS hA _ _ (kw_self _) (kw_self _).symm rfl rfl rfl rfl hl.1 (Nat.le_of_ble_eq_true rfl) dX4_gates_93 ⟨Nat.zero_le _, Nat.zero_le _⟩ (fun H locs hP hD hS => ?_)
          have hP : va_P D vwCl (mnW cI am sv rf ln hs (fx4_counts g 12)) H := hP
          have hD : va_D A (mnW cI am sv rf ln hs (fx4_counts g 12)) := hD
          generalize eg98 : fx4_counts g 12 = g98 at hR hF hP hD
          replace hR := bnd_e hR
          replace hF := bnd_p hF
          refine lv_aload_n hx hb dX4_gates_96 rfl (lv_at hl 2 rfl) ?_
          refine lv_iload_n hx hb dX4_gates_97 rfl (lv_at hl 3 rfl) ?_
          refine lv_iconst (v := 2) hx hb dX4_gates_98 (by decide) ?_
          obtain ⟨hs125, hF⟩ := hF
          refine kcV (ci := 4) (q0 := 0) (As := [.int x1, .int 2]) (rest := []) E.1 (cx4_leaves E am sv rf ln hs g98 x1 2 hs125) hX (cwV 2 hts gX4_gates_X4_leaves rfl rfl rfl hdX4_leaves ⟨Nat.le_of_ble_eq_true rfl, Nat.le_of_ble_eq_true rfl⟩) hKs hK hP hD hS hA _ _ (kw_self _) (kw_self _).symm rfl rfl rfl rfl hl.1 (Nat.le_of_ble_eq_true rfl) dX4_gates_99 ⟨Nat.zero_le _, Nat.zero_le _⟩ (fun H locs hP hD hS => ?_)
          have hP : va_P D vwCl (mnW cI am sv rf ln hs (fx4_leaves g98 x1 2)) H := hP
          have hD : va_D A (mnW cI am sv rf ln hs (fx4_leaves g98 x1 2)) := hD
          generalize eg99 : fx4_leaves g98 x1 2 = g99 at hR hF hP hD
          replace hR := bnd_e hR
          replace hF := bnd_p hF
          refine lv_aload_n hx hb dX4_gates_102 rfl (lv_at hl 2 rfl) ?_
          refine lv_aload_n hx hb dX4_gates_103 rfl (lv_at hl 2 rfl) ?_
          refine va_get (D := D) (ci := 4) (v := .ref (am 1)) (C := RX4) (T := TX4) (N := 8) hx hb hts hinX4 hown hK hP 0 rfl rfl 0 (by decide) q1 (fun _ h9 => h9) rfl dX4_gates_104 ?_
          refine lv_bipush (v := 10) hx hb dX4_gates_107 (by decide) ?_
          refine va_iald hx hb hK hP 1 0 rfl rfl (kin_lit (j := 10) (n := 1203) (by decide) (by decide)) dX4_gates_109 ?_
          refine kw_top (v := .int (g99 10)) rfl ?_
          obtain ⟨hs124, hF⟩ := hF
          refine kcI (ci := 4) (q0 := 0) (As := [.int (g99 10)]) (rest := []) E.1 (cx4_itemAt E am sv rf ln hs g99 (g99 10) hs124) hX (cwV 1 hts gX4_gates_X4_itemAt rfl rfl rfl hdX4_itemAt ⟨Nat.le_of_ble_eq_true rfl, Nat.le_of_ble_eq_true rfl⟩) hKs hK hP hD hS hA _ _ (kw_self _) (kw_self _).symm rfl rfl rfl rfl hl.1 (Nat.le_of_ble_eq_true rfl) dX4_gates_110 ⟨Nat.zero_le _, Nat.zero_le _⟩ (fun H locs hP hD hS => ?_)
          generalize ev100 : fx4_itemAt g99 (g99 10) = v100 at hR hF ⊢
          replace hR := bnd_e hR
          replace hF := bnd_p hF
          refine lv_istore (lv' := [(4, .int v100), (3, .int 0), (2, .int (g (fx4_entry x1 2).toNatClampNeg)), (0, .ref (am 0)), (1, .int x1)]) hx hb dX4_gates_113 hl (by decide) rfl (fun ls hl => ?_)
          refine lv_iload hx hb dX4_gates_115 (lv_at hl 0 rfl) ?_
          refine lv_iconst (v := (-1)) hx hb dX4_gates_117 (by decide) ?_
          refine lv_icmp_eq (tgt := 186) hx hb dX4_gates_118 (by decide) (fun c101 => ?_) (fun c101 => ?_)
          · rw [if_pos c101] at hR hF
            refine lv_aload_n hx hb dX4_gates_186 rfl (lv_at hl 3 rfl) ?_
            refine va_get (D := D) (ci := 4) (v := .ref (am 1)) (C := RX4) (T := TX4) (N := 8) hx hb hts hinX4 hown hK hP 0 rfl rfl 0 (by decide) q1 (fun _ h9 => h9) rfl dX4_gates_187 ?_
            refine lv_sipush (v := 1041) hx hb dX4_gates_190 (by decide) ?_
            refine lv_aload_n hx hb dX4_gates_193 rfl (lv_at hl 3 rfl) ?_
            refine va_get (D := D) (ci := 4) (v := .ref (am 1)) (C := RX4) (T := TX4) (N := 8) hx hb hts hinX4 hown hK hP 0 rfl rfl 0 (by decide) q1 (fun _ h9 => h9) rfl dX4_gates_194 ?_
            refine lv_sipush (v := 1040) hx hb dX4_gates_197 (by decide) ?_
            refine va_iald hx hb hK hP 1 0 rfl rfl (kin_lit (j := 1040) (n := 1203) (by decide) (by decide)) dX4_gates_200 ?_
            refine kw_top (v := .int (g99 1040)) rfl ?_
            refine lv_iadd hx hb dX4_gates_201 ?_
            refine lv_aload_n hx hb dX4_gates_202 rfl (lv_at hl 3 rfl) ?_
            refine va_get (D := D) (ci := 4) (v := .ref (am 1)) (C := RX4) (T := TX4) (N := 8) hx hb hts hinX4 hown hK hP 0 rfl rfl 0 (by decide) q1 (fun _ h9 => h9) rfl dX4_gates_203 ?_
            refine lv_bipush (v := 14) hx hb dX4_gates_206 (by decide) ?_
            refine va_iald hx hb hK hP 1 0 rfl rfl (kin_lit (j := 14) (n := 1203) (by decide) (by decide)) dX4_gates_208 ?_
            refine kw_top (v := .int (g99 14)) rfl ?_
            refine lv_aload_n hx hb dX4_gates_209 rfl (lv_at hl 3 rfl) ?_
            refine va_get (D := D) (ci := 4) (v := .ref (am 1)) (C := RX4) (T := TX4) (N := 8) hx hb hts hinX4 hown hK hP 0 rfl rfl 0 (by decide) q1 (fun _ h9 => h9) rfl dX4_gates_210 ?_
            refine lv_iconst (v := 3) hx hb dX4_gates_213 (by decide) ?_
            refine va_iald hx hb hK hP 1 0 rfl rfl (kin_lit (j := 3) (n := 1203) (by decide) (by decide)) dX4_gates_214 ?_
            refine kw_top (v := .int (g99 3)) rfl ?_
            refine lv_iadd hx hb dX4_gates_215 ?_
            obtain ⟨hi102, hF⟩ := hF
            refine va_iast hx hb hK hP hD hS 1 0 rfl rfl hi102 dX4_gates_216 (fun H locs hP hD hS => ?_)
            have hP : va_P D vwCl (mnW cI am sv rf ln hs (upd g99 (1041 + (g99 1040)).toNatClampNeg ((g99 14) + (g99 3)))) H := hP
            have hD : va_D A (mnW cI am sv rf ln hs (upd g99 (1041 + (g99 1040)).toNatClampNeg ((g99 14) + (g99 3)))) := hD
            generalize eg103 : upd g99 (1041 + (g99 1040)).toNatClampNeg ((g99 14) + (g99 3)) = g103 at hR hP hD hF
            replace hR := bnd_e hR
            replace hF := bnd_p hF
            refine lv_aload_n hx hb dX4_gates_217 rfl (lv_at hl 3 rfl) ?_
            refine va_get (D := D) (ci := 4) (v := .ref (am 1)) (C := RX4) (T := TX4) (N := 8) hx hb hts hinX4 hown hK hP 0 rfl rfl 0 (by decide) q1 (fun _ h9 => h9) rfl dX4_gates_218 ?_
            refine lv_sipush (v := 1040) hx hb dX4_gates_221 (by decide) ?_
            refine lv_dup2_11 hx hb dX4_gates_224 rfl rfl ?_
            refine va_iald hx hb hK hP 1 0 rfl rfl (kin_lit (j := 1040) (n := 1203) (by decide) (by decide)) dX4_gates_225 ?_
            refine kw_top (v := .int (g103 1040)) rfl ?_
            refine lv_iconst (v := 1) hx hb dX4_gates_226 (by decide) ?_
            refine lv_iadd hx hb dX4_gates_227 ?_
            refine va_iast hx hb hK hP hD hS 1 0 rfl rfl (kin_lit (j := 1040) (n := 1203) (by decide) (by decide)) dX4_gates_228 (fun H locs hP hD hS => ?_)
            have hP : va_P D vwCl (mnW cI am sv rf ln hs (upd g103 1040 ((g103 1040) + 1))) H := hP
            have hD : va_D A (mnW cI am sv rf ln hs (upd g103 1040 ((g103 1040) + 1))) := hD
            generalize eg104 : upd g103 1040 ((g103 1040) + 1) = g104 at hR hP hD hF
            replace hR := bnd_e hR
            replace hF := bnd_p hF
            refine lv_aload_n hx hb dX4_gates_229 rfl (lv_at hl 3 rfl) ?_
            refine va_get (D := D) (ci := 4) (v := .ref (am 1)) (C := RX4) (T := TX4) (N := 8) hx hb hts hinX4 hown hK hP 0 rfl rfl 0 (by decide) q1 (fun _ h9 => h9) rfl dX4_gates_230 ?_
            refine lv_bipush (v := 12) hx hb dX4_gates_233 (by decide) ?_
            refine lv_dup2_11 hx hb dX4_gates_235 rfl rfl ?_
            refine va_iald hx hb hK hP 1 0 rfl rfl (kin_lit (j := 12) (n := 1203) (by decide) (by decide)) dX4_gates_236 ?_
            refine kw_top (v := .int (g104 12)) rfl ?_
            refine lv_iconst (v := 1) hx hb dX4_gates_237 (by decide) ?_
            refine lv_iadd hx hb dX4_gates_238 ?_
            refine va_iast hx hb hK hP hD hS 1 0 rfl rfl (kin_lit (j := 12) (n := 1203) (by decide) (by decide)) dX4_gates_239 (fun H locs hP hD hS => ?_)
            have hP : va_P D vwCl (mnW cI am sv rf ln hs (upd g104 12 ((g104 12) + 1))) H := hP
            have hD : va_D A (mnW cI am sv rf ln hs (upd g104 12 ((g104 12) + 1))) := hD
            generalize eg105 : upd g104 12 ((g104 12) + 1) = g105 at hR hP hD hF
            replace hR := bnd_e hR
            replace hF := bnd_p hF
            refine lv_aload_n hx hb dX4_gates_240 rfl (lv_at hl 3 rfl) ?_
            refine va_get (D := D) (ci := 4) (v := .ref (am 1)) (C := RX4) (T := TX4) (N := 8) hx hb hts hinX4 hown hK hP 0 rfl rfl 0 (by decide) q1 (fun _ h9 => h9) rfl dX4_gates_241 ?_
            refine lv_bipush (v := 12) hx hb dX4_gates_244 (by decide) ?_
            refine va_iald hx hb hK hP 1 0 rfl rfl (kin_lit (j := 12) (n := 1203) (by decide) (by decide)) dX4_gates_246 ?_
            refine kw_top (v := .int (g105 12)) rfl ?_
            refine lv_aload_n hx hb dX4_gates_247 rfl (lv_at hl 3 rfl) ?_
            refine va_get (D := D) (ci := 4) (v := .ref (am 1)) (C := RX4) (T := TX4) (N := 8) hx hb hts hinX4 hown hK hP 0 rfl rfl 0 (by decide) q1 (fun _ h9 => h9) rfl dX4_gates_248 ?_
            refine lv_iconst (v := 4) hx hb dX4_gates_251 (by decide) ?_
            refine va_iald hx hb hK hP 1 0 rfl rfl (kin_lit (j := 4) (n := 1203) (by decide) (by decide)) dX4_gates_252 ?_
            refine kw_top (v := .int (g105 4)) rfl ?_
            refine lv_icmp_lt (tgt := 269) hx hb dX4_gates_253 (by decide) (fun c106 => ?_) (fun c106 => ?_)
            · rw [if_pos c106] at hR hF
              refine lv_iconst (v := 0) hx hb dX4_gates_269 (by decide) ?_
              subst hR
              exact krZ hx hb hr hlk hP hD hS dX4_gates_270 (by decide) rfl rfl
            · rw [if_neg c106] at hR hF
              refine lv_aload_n hx hb dX4_gates_256 rfl (lv_at hl 3 rfl) ?_
              refine va_get (D := D) (ci := 4) (v := .ref (am 1)) (C := RX4) (T := TX4) (N := 8) hx hb hts hinX4 hown hK hP 0 rfl rfl 0 (by decide) q1 (fun _ h9 => h9) rfl dX4_gates_257 ?_
              refine lv_bipush (v := 12) hx hb dX4_gates_260 (by decide) ?_
              refine lv_iconst (v := 0) hx hb dX4_gates_262 (by decide) ?_
              refine va_iast hx hb hK hP hD hS 1 0 rfl rfl (kin_lit (j := 12) (n := 1203) (by decide) (by decide)) dX4_gates_263 (fun H locs hP hD hS => ?_)
              have hP : va_P D vwCl (mnW cI am sv rf ln hs (upd g105 12 0)) H := hP
              have hD : va_D A (mnW cI am sv rf ln hs (upd g105 12 0)) := hD
              generalize eg107 : upd g105 12 0 = g107 at hR hP hD hF
              replace hR := bnd_e hR
              replace hF := bnd_p hF
              refine lv_aload_n hx hb dX4_gates_264 rfl (lv_at hl 3 rfl) ?_
              refine lv_iconst (v := 1) hx hb dX4_gates_265 (by decide) ?_
              have hs109 := hF
              refine kcV (ci := 4) (q0 := 0) (As := [.int 1]) (rest := []) E.1 (cx4_alarms E am sv rf ln hs g107 1 hs109) hX (cwV 1 hts gX4_gates_X4_alarms rfl rfl rfl hdX4_alarms ⟨Nat.le_of_ble_eq_true rfl, Nat.le_of_ble_eq_true rfl⟩) hKs hK hP hD hS hA _ _ (kw_self _) (kw_self _).symm rfl rfl rfl rfl hl.1 (Nat.le_of_ble_eq_true rfl) dX4_gates_266 ⟨Nat.zero_le _, Nat.zero_le _⟩ (fun H locs hP hD hS => ?_)
              have hP : va_P D vwCl (mnW cI am sv rf ln hs (fx4_alarms g107 1)) H := hP
              have hD : va_D A (mnW cI am sv rf ln hs (fx4_alarms g107 1)) := hD
              generalize eg108 : fx4_alarms g107 1 = g108 at hR hP hD
              replace hR := bnd_e hR
              refine lv_iconst (v := 0) hx hb dX4_gates_269 (by decide) ?_
              subst hR
              exact krZ hx hb hr hlk hP hD hS dX4_gates_270 (by decide) rfl rfl
          · rw [if_neg c101] at hR hF
            refine lv_aload_n hx hb dX4_gates_121 rfl (lv_at hl 3 rfl) ?_
            refine lv_bipush (v := 36) hx hb dX4_gates_122 (by decide) ?_
            refine lv_bipush (v := 37) hx hb dX4_gates_124 (by decide) ?_
            refine lv_iconst (v := 4) hx hb dX4_gates_126 (by decide) ?_
            refine lv_iload hx hb dX4_gates_127 (lv_at hl 0 rfl) ?_
            obtain ⟨hs123, hF⟩ := hF
            refine kcV (ci := 4) (q0 := 0) (As := [.int 36, .int 37, .int 4, .int v100]) (rest := []) E.1 (cx4_drops E am sv rf ln hs g99 36 37 4 v100 hs123) hX (cwV 4 hts gX4_gates_X4_drops rfl rfl rfl hdX4_drops ⟨Nat.le_of_ble_eq_true rfl, Nat.le_of_ble_eq_true rfl⟩) hKs hK hP hD hS hA _ _ (kw_self _) (kw_self _).symm rfl rfl rfl rfl hl.1 (Nat.le_of_ble_eq_true rfl) dX4_gates_129 ⟨Nat.zero_le _, Nat.zero_le _⟩ (fun H locs hP hD hS => ?_)
            have hP : va_P D vwCl (mnW cI am sv rf ln hs (fx4_drops g99 36 37 4 v100)) H := hP
            have hD : va_D A (mnW cI am sv rf ln hs (fx4_drops g99 36 37 4 v100)) := hD
            generalize eg110 : fx4_drops g99 36 37 4 v100 = g110 at hR hF hP hD
            replace hR := bnd_e hR
            replace hF := bnd_p hF
            refine lv_aload_n hx hb dX4_gates_132 rfl (lv_at hl 3 rfl) ?_
            refine va_get (D := D) (ci := 4) (v := .ref (am 1)) (C := RX4) (T := TX4) (N := 8) hx hb hts hinX4 hown hK hP 0 rfl rfl 0 (by decide) q1 (fun _ h9 => h9) rfl dX4_gates_133 ?_
            refine lv_bipush (v := 35) hx hb dX4_gates_136 (by decide) ?_
            refine lv_dup2_11 hx hb dX4_gates_138 rfl rfl ?_
            refine va_iald hx hb hK hP 1 0 rfl rfl (kin_lit (j := 35) (n := 1203) (by decide) (by decide)) dX4_gates_139 ?_
            refine kw_top (v := .int (g110 35)) rfl ?_
            refine lv_iconst (v := 1) hx hb dX4_gates_140 (by decide) ?_
            refine lv_iadd hx hb dX4_gates_141 ?_
            refine va_iast hx hb hK hP hD hS 1 0 rfl rfl (kin_lit (j := 35) (n := 1203) (by decide) (by decide)) dX4_gates_142 (fun H locs hP hD hS => ?_)
            have hP : va_P D vwCl (mnW cI am sv rf ln hs (upd g110 35 ((g110 35) + 1))) H := hP
            have hD : va_D A (mnW cI am sv rf ln hs (upd g110 35 ((g110 35) + 1))) := hD
            generalize eg111 : upd g110 35 ((g110 35) + 1) = g111 at hR hP hD hF
            replace hR := bnd_e hR
            replace hF := bnd_p hF
            refine lv_aload_n hx hb dX4_gates_143 rfl (lv_at hl 3 rfl) ?_
            refine va_get (D := D) (ci := 4) (v := .ref (am 1)) (C := RX4) (T := TX4) (N := 8) hx hb hts hinX4 hown hK hP 0 rfl rfl 0 (by decide) q1 (fun _ h9 => h9) rfl dX4_gates_144 ?_
            refine lv_sipush (v := 960) hx hb dX4_gates_147 (by decide) ?_
            refine lv_aload_n hx hb dX4_gates_150 rfl (lv_at hl 3 rfl) ?_
            refine va_get (D := D) (ci := 4) (v := .ref (am 1)) (C := RX4) (T := TX4) (N := 8) hx hb hts hinX4 hown hK hP 0 rfl rfl 0 (by decide) q1 (fun _ h9 => h9) rfl dX4_gates_151 ?_
            refine lv_sipush (v := 959) hx hb dX4_gates_154 (by decide) ?_
            refine va_iald hx hb hK hP 1 0 rfl rfl (kin_lit (j := 959) (n := 1203) (by decide) (by decide)) dX4_gates_157 ?_
            refine kw_top (v := .int (g111 959)) rfl ?_
            refine lv_iadd hx hb dX4_gates_158 ?_
            refine lv_aload_n hx hb dX4_gates_159 rfl (lv_at hl 3 rfl) ?_
            refine va_get (D := D) (ci := 4) (v := .ref (am 1)) (C := RX4) (T := TX4) (N := 8) hx hb hts hinX4 hown hK hP 0 rfl rfl 0 (by decide) q1 (fun _ h9 => h9) rfl dX4_gates_160 ?_
            refine lv_bipush (v := 14) hx hb dX4_gates_163 (by decide) ?_
            refine va_iald hx hb hK hP 1 0 rfl rfl (kin_lit (j := 14) (n := 1203) (by decide) (by decide)) dX4_gates_165 ?_
            refine kw_top (v := .int (g111 14)) rfl ?_
            refine lv_aload_n hx hb dX4_gates_166 rfl (lv_at hl 3 rfl) ?_
            refine va_get (D := D) (ci := 4) (v := .ref (am 1)) (C := RX4) (T := TX4) (N := 8) hx hb hts hinX4 hown hK hP 0 rfl rfl 0 (by decide) q1 (fun _ h9 => h9) rfl dX4_gates_167 ?_
            refine lv_iconst (v := 2) hx hb dX4_gates_170 (by decide) ?_
            refine va_iald hx hb hK hP 1 0 rfl rfl (kin_lit (j := 2) (n := 1203) (by decide) (by decide)) dX4_gates_171 ?_
            refine kw_top (v := .int (g111 2)) rfl ?_
            refine lv_iadd hx hb dX4_gates_172 ?_
            obtain ⟨hi112, hF⟩ := hF
            refine va_iast hx hb hK hP hD hS 1 0 rfl rfl hi112 dX4_gates_173 (fun H locs hP hD hS => ?_)
            have hP : va_P D vwCl (mnW cI am sv rf ln hs (upd g111 (960 + (g111 959)).toNatClampNeg ((g111 14) + (g111 2)))) H := hP
            have hD : va_D A (mnW cI am sv rf ln hs (upd g111 (960 + (g111 959)).toNatClampNeg ((g111 14) + (g111 2)))) := hD
            generalize eg113 : upd g111 (960 + (g111 959)).toNatClampNeg ((g111 14) + (g111 2)) = g113 at hR hP hD hF
            replace hR := bnd_e hR
            replace hF := bnd_p hF
            refine lv_aload_n hx hb dX4_gates_174 rfl (lv_at hl 3 rfl) ?_
            refine va_get (D := D) (ci := 4) (v := .ref (am 1)) (C := RX4) (T := TX4) (N := 8) hx hb hts hinX4 hown hK hP 0 rfl rfl 0 (by decide) q1 (fun _ h9 => h9) rfl dX4_gates_175 ?_
            refine lv_sipush (v := 959) hx hb dX4_gates_178 (by decide) ?_
            refine lv_dup2_11 hx hb dX4_gates_181 rfl rfl ?_
            refine va_iald hx hb hK hP 1 0 rfl rfl (kin_lit (j := 959) (n := 1203) (by decide) (by decide)) dX4_gates_182 ?_
            refine kw_top (v := .int (g113 959)) rfl ?_
            refine lv_iconst (v := 1) hx hb dX4_gates_183 (by decide) ?_
            refine lv_iadd hx hb dX4_gates_184 ?_
            refine va_iast hx hb hK hP hD hS 1 0 rfl rfl (kin_lit (j := 959) (n := 1203) (by decide) (by decide)) dX4_gates_185 (fun H locs hP hD hS => ?_)
            have hP : va_P D vwCl (mnW cI am sv rf ln hs (upd g113 959 ((g113 959) + 1))) H := hP
            have hD : va_D A (mnW cI am sv rf ln hs (upd g113 959 ((g113 959) + 1))) := hD
            generalize eg114 : upd g113 959 ((g113 959) + 1) = g114 at hR hP hD hF
            replace hR := bnd_e hR
            replace hF := bnd_p hF
            refine lv_aload_n hx hb dX4_gates_186 rfl (lv_at hl 3 rfl) ?_
            refine va_get (D := D) (ci := 4) (v := .ref (am 1)) (C := RX4) (T := TX4) (N := 8) hx hb hts hinX4 hown hK hP 0 rfl rfl 0 (by decide) q1 (fun _ h9 => h9) rfl dX4_gates_187 ?_
            refine lv_sipush (v := 1041) hx hb dX4_gates_190 (by decide) ?_
            refine lv_aload_n hx hb dX4_gates_193 rfl (lv_at hl 3 rfl) ?_
            refine va_get (D := D) (ci := 4) (v := .ref (am 1)) (C := RX4) (T := TX4) (N := 8) hx hb hts hinX4 hown hK hP 0 rfl rfl 0 (by decide) q1 (fun _ h9 => h9) rfl dX4_gates_194 ?_
            refine lv_sipush (v := 1040) hx hb dX4_gates_197 (by decide) ?_
            refine va_iald hx hb hK hP 1 0 rfl rfl (kin_lit (j := 1040) (n := 1203) (by decide) (by decide)) dX4_gates_200 ?_
            refine kw_top (v := .int (g114 1040)) rfl ?_
            refine lv_iadd hx hb dX4_gates_201 ?_
            refine lv_aload_n hx hb dX4_gates_202 rfl (lv_at hl 3 rfl) ?_
            refine va_get (D := D) (ci := 4) (v := .ref (am 1)) (C := RX4) (T := TX4) (N := 8) hx hb hts hinX4 hown hK hP 0 rfl rfl 0 (by decide) q1 (fun _ h9 => h9) rfl dX4_gates_203 ?_
            refine lv_bipush (v := 14) hx hb dX4_gates_206 (by decide) ?_
            refine va_iald hx hb hK hP 1 0 rfl rfl (kin_lit (j := 14) (n := 1203) (by decide) (by decide)) dX4_gates_208 ?_
            refine kw_top (v := .int (g114 14)) rfl ?_
            refine lv_aload_n hx hb dX4_gates_209 rfl (lv_at hl 3 rfl) ?_
            refine va_get (D := D) (ci := 4) (v := .ref (am 1)) (C := RX4) (T := TX4) (N := 8) hx hb hts hinX4 hown hK hP 0 rfl rfl 0 (by decide) q1 (fun _ h9 => h9) rfl dX4_gates_210 ?_
            refine lv_iconst (v := 3) hx hb dX4_gates_213 (by decide) ?_
            refine va_iald hx hb hK hP 1 0 rfl rfl (kin_lit (j := 3) (n := 1203) (by decide) (by decide)) dX4_gates_214 ?_
            refine kw_top (v := .int (g114 3)) rfl ?_
            refine lv_iadd hx hb dX4_gates_215 ?_
            obtain ⟨hi115, hF⟩ := hF
            refine va_iast hx hb hK hP hD hS 1 0 rfl rfl hi115 dX4_gates_216 (fun H locs hP hD hS => ?_)
            have hP : va_P D vwCl (mnW cI am sv rf ln hs (upd g114 (1041 + (g114 1040)).toNatClampNeg ((g114 14) + (g114 3)))) H := hP
            have hD : va_D A (mnW cI am sv rf ln hs (upd g114 (1041 + (g114 1040)).toNatClampNeg ((g114 14) + (g114 3)))) := hD
            generalize eg116 : upd g114 (1041 + (g114 1040)).toNatClampNeg ((g114 14) + (g114 3)) = g116 at hR hP hD hF
            replace hR := bnd_e hR
            replace hF := bnd_p hF
            refine lv_aload_n hx hb dX4_gates_217 rfl (lv_at hl 3 rfl) ?_
            refine va_get (D := D) (ci := 4) (v := .ref (am 1)) (C := RX4) (T := TX4) (N := 8) hx hb hts hinX4 hown hK hP 0 rfl rfl 0 (by decide) q1 (fun _ h9 => h9) rfl dX4_gates_218 ?_
            refine lv_sipush (v := 1040) hx hb dX4_gates_221 (by decide) ?_
            refine lv_dup2_11 hx hb dX4_gates_224 rfl rfl ?_
            refine va_iald hx hb hK hP 1 0 rfl rfl (kin_lit (j := 1040) (n := 1203) (by decide) (by decide)) dX4_gates_225 ?_
            refine kw_top (v := .int (g116 1040)) rfl ?_
            refine lv_iconst (v := 1) hx hb dX4_gates_226 (by decide) ?_
            refine lv_iadd hx hb dX4_gates_227 ?_
            refine va_iast hx hb hK hP hD hS 1 0 rfl rfl (kin_lit (j := 1040) (n := 1203) (by decide) (by decide)) dX4_gates_228 (fun H locs hP hD hS => ?_)
            have hP : va_P D vwCl (mnW cI am sv rf ln hs (upd g116 1040 ((g116 1040) + 1))) H := hP
            have hD : va_D A (mnW cI am sv rf ln hs (upd g116 1040 ((g116 1040) + 1))) := hD
            generalize eg117 : upd g116 1040 ((g116 1040) + 1) = g117 at hR hP hD hF
            replace hR := bnd_e hR
            replace hF := bnd_p hF
            refine lv_aload_n hx hb dX4_gates_229 rfl (lv_at hl 3 rfl) ?_
            refine va_get (D := D) (ci := 4) (v := .ref (am 1)) (C := RX4) (T := TX4) (N := 8) hx hb hts hinX4 hown hK hP 0 rfl rfl 0 (by decide) q1 (fun _ h9 => h9) rfl dX4_gates_230 ?_
            refine lv_bipush (v := 12) hx hb dX4_gates_233 (by decide) ?_
            refine lv_dup2_11 hx hb dX4_gates_235 rfl rfl ?_
            refine va_iald hx hb hK hP 1 0 rfl rfl (kin_lit (j := 12) (n := 1203) (by decide) (by decide)) dX4_gates_236 ?_
            refine kw_top (v := .int (g117 12)) rfl ?_
            refine lv_iconst (v := 1) hx hb dX4_gates_237 (by decide) ?_
            refine lv_iadd hx hb dX4_gates_238 ?_
            refine va_iast hx hb hK hP hD hS 1 0 rfl rfl (kin_lit (j := 12) (n := 1203) (by decide) (by decide)) dX4_gates_239 (fun H locs hP hD hS => ?_)
            have hP : va_P D vwCl (mnW cI am sv rf ln hs (upd g117 12 ((g117 12) + 1))) H := hP
            have hD : va_D A (mnW cI am sv rf ln hs (upd g117 12 ((g117 12) + 1))) := hD
            generalize eg118 : upd g117 12 ((g117 12) + 1) = g118 at hR hP hD hF
            replace hR := bnd_e hR
            replace hF := bnd_p hF
            refine lv_aload_n hx hb dX4_gates_240 rfl (lv_at hl 3 rfl) ?_
            refine va_get (D := D) (ci := 4) (v := .ref (am 1)) (C := RX4) (T := TX4) (N := 8) hx hb hts hinX4 hown hK hP 0 rfl rfl 0 (by decide) q1 (fun _ h9 => h9) rfl dX4_gates_241 ?_
            refine lv_bipush (v := 12) hx hb dX4_gates_244 (by decide) ?_
            refine va_iald hx hb hK hP 1 0 rfl rfl (kin_lit (j := 12) (n := 1203) (by decide) (by decide)) dX4_gates_246 ?_
            refine kw_top (v := .int (g118 12)) rfl ?_
            refine lv_aload_n hx hb dX4_gates_247 rfl (lv_at hl 3 rfl) ?_
            refine va_get (D := D) (ci := 4) (v := .ref (am 1)) (C := RX4) (T := TX4) (N := 8) hx hb hts hinX4 hown hK hP 0 rfl rfl 0 (by decide) q1 (fun _ h9 => h9) rfl dX4_gates_248 ?_
            refine lv_iconst (v := 4) hx hb dX4_gates_251 (by decide) ?_
            refine va_iald hx hb hK hP 1 0 rfl rfl (kin_lit (j := 4) (n := 1203) (by decide) (by decide)) dX4_gates_252 ?_
            refine kw_top (v := .int (g118 4)) rfl ?_
            refine lv_icmp_lt (tgt := 269) hx hb dX4_gates_253 (by decide) (fun c119 => ?_) (fun c119 => ?_)
            · rw [if_pos c119] at hR hF
              refine lv_iconst (v := 0) hx hb dX4_gates_269 (by decide) ?_
              subst hR
              exact krZ hx hb hr hlk hP hD hS dX4_gates_270 (by decide) rfl rfl
            · rw [if_neg c119] at hR hF
              refine lv_aload_n hx hb dX4_gates_256 rfl (lv_at hl 3 rfl) ?_
              refine va_get (D := D) (ci := 4) (v := .ref (am 1)) (C := RX4) (T := TX4) (N := 8) hx hb hts hinX4 hown hK hP 0 rfl rfl 0 (by decide) q1 (fun _ h9 => h9) rfl dX4_gates_257 ?_
              refine lv_bipush (v := 12) hx hb dX4_gates_260 (by decide) ?_
              refine lv_iconst (v := 0) hx hb dX4_gates_262 (by decide) ?_
              refine va_iast hx hb hK hP hD hS 1 0 rfl rfl (kin_lit (j := 12) (n := 1203) (by decide) (by decide)) dX4_gates_263 (fun H locs hP hD hS => ?_)
              have hP : va_P D vwCl (mnW cI am sv rf ln hs (upd g118 12 0)) H := hP
              have hD : va_D A (mnW cI am sv rf ln hs (upd g118 12 0)) := hD
              generalize eg120 : upd g118 12 0 = g120 at hR hP hD hF
              replace hR := bnd_e hR
              replace hF := bnd_p hF
              refine lv_aload_n hx hb dX4_gates_264 rfl (lv_at hl 3 rfl) ?_
              refine lv_iconst (v := 1) hx hb dX4_gates_265 (by decide) ?_
              have hs122 := hF
              refine kcV (ci := 4) (q0 := 0) (As := [.int 1]) (rest := []) E.1 (cx4_alarms E am sv rf ln hs g120 1 hs122) hX (cwV 1 hts gX4_gates_X4_alarms rfl rfl rfl hdX4_alarms ⟨Nat.le_of_ble_eq_true rfl, Nat.le_of_ble_eq_true rfl⟩) hKs hK hP hD hS hA _ _ (kw_self _) (kw_self _).symm rfl rfl rfl rfl hl.1 (Nat.le_of_ble_eq_true rfl) dX4_gates_266 ⟨Nat.zero_le _, Nat.zero_le _⟩ (fun H locs hP hD hS => ?_)
              have hP : va_P D vwCl (mnW cI am sv rf ln hs (fx4_alarms g120 1)) H := hP
              have hD : va_D A (mnW cI am sv rf ln hs (fx4_alarms g120 1)) := hD
              generalize eg121 : fx4_alarms g120 1 = g121 at hR hP hD
              replace hR := bnd_e hR
              refine lv_iconst (v := 0) hx hb dX4_gates_269 (by decide) ?_
              subst hR
              exact krZ hx hb hr hlk hP hD hS dX4_gates_270 (by decide) rfl rfl
      · rw [if_pos c67] at hR hF
        refine lv_bipush (v := 11) hx hb dX4_gates_76 (by decide) ?_
        refine lv_goto (tgt := 93) hx hb dX4_gates_78 (by decide) ?_
        obtain ⟨hs96, hF⟩ := hF
        refine kcV (ci := 4) (q0 := 0) (As := [.int 11]) (rest := []) E.1 (cx4_counts E am sv rf ln hs g 11 hs96) hX (cwV 1 hts gX4_gates_X4_counts rfl rfl rfl hdX4_counts ⟨Nat.le_of_ble_eq_true rfl, Nat.le_of_ble_eq_true rfl⟩) hKs hK hP hD hS hA _ _ (kw_self _) (kw_self _).symm rfl rfl rfl rfl hl.1 (Nat.le_of_ble_eq_true rfl) dX4_gates_93 ⟨Nat.zero_le _, Nat.zero_le _⟩ (fun H locs hP hD hS => ?_)
        have hP : va_P D vwCl (mnW cI am sv rf ln hs (fx4_counts g 11)) H := hP
        have hD : va_D A (mnW cI am sv rf ln hs (fx4_counts g 11)) := hD
        generalize eg68 : fx4_counts g 11 = g68 at hR hF hP hD
        replace hR := bnd_e hR
        replace hF := bnd_p hF
        refine lv_aload_n hx hb dX4_gates_96 rfl (lv_at hl 2 rfl) ?_
        refine lv_iload_n hx hb dX4_gates_97 rfl (lv_at hl 3 rfl) ?_
        refine lv_iconst (v := 2) hx hb dX4_gates_98 (by decide) ?_
        obtain ⟨hs95, hF⟩ := hF
        refine kcV (ci := 4) (q0 := 0) (As := [.int x1, .int 2]) (rest := []) E.1 (cx4_leaves E am sv rf ln hs g68 x1 2 hs95) hX (cwV 2 hts gX4_gates_X4_leaves rfl rfl rfl hdX4_leaves ⟨Nat.le_of_ble_eq_true rfl, Nat.le_of_ble_eq_true rfl⟩) hKs hK hP hD hS hA _ _ (kw_self _) (kw_self _).symm rfl rfl rfl rfl hl.1 (Nat.le_of_ble_eq_true rfl) dX4_gates_99 ⟨Nat.zero_le _, Nat.zero_le _⟩ (fun H locs hP hD hS => ?_)
        have hP : va_P D vwCl (mnW cI am sv rf ln hs (fx4_leaves g68 x1 2)) H := hP
        have hD : va_D A (mnW cI am sv rf ln hs (fx4_leaves g68 x1 2)) := hD
        generalize eg69 : fx4_leaves g68 x1 2 = g69 at hR hF hP hD
        replace hR := bnd_e hR
        replace hF := bnd_p hF
        refine lv_aload_n hx hb dX4_gates_102 rfl (lv_at hl 2 rfl) ?_
        refine lv_aload_n hx hb dX4_gates_103 rfl (lv_at hl 2 rfl) ?_
        refine va_get (D := D) (ci := 4) (v := .ref (am 1)) (C := RX4) (T := TX4) (N := 8) hx hb hts hinX4 hown hK hP 0 rfl rfl 0 (by decide) q1 (fun _ h9 => h9) rfl dX4_gates_104 ?_
        refine lv_bipush (v := 10) hx hb dX4_gates_107 (by decide) ?_
        refine va_iald hx hb hK hP 1 0 rfl rfl (kin_lit (j := 10) (n := 1203) (by decide) (by decide)) dX4_gates_109 ?_
        refine kw_top (v := .int (g69 10)) rfl ?_
        obtain ⟨hs94, hF⟩ := hF
        refine kcI (ci := 4) (q0 := 0) (As := [.int (g69 10)]) (rest := []) E.1 (cx4_itemAt E am sv rf ln hs g69 (g69 10) hs94) hX (cwV 1 hts gX4_gates_X4_itemAt rfl rfl rfl hdX4_itemAt ⟨Nat.le_of_ble_eq_true rfl, Nat.le_of_ble_eq_true rfl⟩) hKs hK hP hD hS hA _ _ (kw_self _) (kw_self _).symm rfl rfl rfl rfl hl.1 (Nat.le_of_ble_eq_true rfl) dX4_gates_110 ⟨Nat.zero_le _, Nat.zero_le _⟩ (fun H locs hP hD hS => ?_)
        generalize ev70 : fx4_itemAt g69 (g69 10) = v70 at hR hF ⊢
        replace hR := bnd_e hR
        replace hF := bnd_p hF
        refine lv_istore (lv' := [(4, .int v70), (3, .int 0), (2, .int (g (fx4_entry x1 2).toNatClampNeg)), (0, .ref (am 0)), (1, .int x1)]) hx hb dX4_gates_113 hl (by decide) rfl (fun ls hl => ?_)
        refine lv_iload hx hb dX4_gates_115 (lv_at hl 0 rfl) ?_
        refine lv_iconst (v := (-1)) hx hb dX4_gates_117 (by decide) ?_
        refine lv_icmp_eq (tgt := 186) hx hb dX4_gates_118 (by decide) (fun c71 => ?_) (fun c71 => ?_)
        · rw [if_pos c71] at hR hF
          refine lv_aload_n hx hb dX4_gates_186 rfl (lv_at hl 3 rfl) ?_
          refine va_get (D := D) (ci := 4) (v := .ref (am 1)) (C := RX4) (T := TX4) (N := 8) hx hb hts hinX4 hown hK hP 0 rfl rfl 0 (by decide) q1 (fun _ h9 => h9) rfl dX4_gates_187 ?_
          refine lv_sipush (v := 1041) hx hb dX4_gates_190 (by decide) ?_
          refine lv_aload_n hx hb dX4_gates_193 rfl (lv_at hl 3 rfl) ?_
          refine va_get (D := D) (ci := 4) (v := .ref (am 1)) (C := RX4) (T := TX4) (N := 8) hx hb hts hinX4 hown hK hP 0 rfl rfl 0 (by decide) q1 (fun _ h9 => h9) rfl dX4_gates_194 ?_
          refine lv_sipush (v := 1040) hx hb dX4_gates_197 (by decide) ?_
          refine va_iald hx hb hK hP 1 0 rfl rfl (kin_lit (j := 1040) (n := 1203) (by decide) (by decide)) dX4_gates_200 ?_
          refine kw_top (v := .int (g69 1040)) rfl ?_
          refine lv_iadd hx hb dX4_gates_201 ?_
          refine lv_aload_n hx hb dX4_gates_202 rfl (lv_at hl 3 rfl) ?_
          refine va_get (D := D) (ci := 4) (v := .ref (am 1)) (C := RX4) (T := TX4) (N := 8) hx hb hts hinX4 hown hK hP 0 rfl rfl 0 (by decide) q1 (fun _ h9 => h9) rfl dX4_gates_203 ?_
          refine lv_bipush (v := 14) hx hb dX4_gates_206 (by decide) ?_
          refine va_iald hx hb hK hP 1 0 rfl rfl (kin_lit (j := 14) (n := 1203) (by decide) (by decide)) dX4_gates_208 ?_
          refine kw_top (v := .int (g69 14)) rfl ?_
          refine lv_aload_n hx hb dX4_gates_209 rfl (lv_at hl 3 rfl) ?_
          refine va_get (D := D) (ci := 4) (v := .ref (am 1)) (C := RX4) (T := TX4) (N := 8) hx hb hts hinX4 hown hK hP 0 rfl rfl 0 (by decide) q1 (fun _ h9 => h9) rfl dX4_gates_210 ?_
          refine lv_iconst (v := 3) hx hb dX4_gates_213 (by decide) ?_
          refine va_iald hx hb hK hP 1 0 rfl rfl (kin_lit (j := 3) (n := 1203) (by decide) (by decide)) dX4_gates_214 ?_
          refine kw_top (v := .int (g69 3)) rfl ?_
          refine lv_iadd hx hb dX4_gates_215 ?_
          obtain ⟨hi72, hF⟩ := hF
          refine va_iast hx hb hK hP hD hS 1 0 rfl rfl hi72 dX4_gates_216 (fun H locs hP hD hS => ?_)
          have hP : va_P D vwCl (mnW cI am sv rf ln hs (upd g69 (1041 + (g69 1040)).toNatClampNeg ((g69 14) + (g69 3)))) H := hP
          have hD : va_D A (mnW cI am sv rf ln hs (upd g69 (1041 + (g69 1040)).toNatClampNeg ((g69 14) + (g69 3)))) := hD
          generalize eg73 : upd g69 (1041 + (g69 1040)).toNatClampNeg ((g69 14) + (g69 3)) = g73 at hR hP hD hF
          replace hR := bnd_e hR
          replace hF := bnd_p hF
          refine lv_aload_n hx hb dX4_gates_217 rfl (lv_at hl 3 rfl) ?_
          refine va_get (D := D) (ci := 4) (v := .ref (am 1)) (C := RX4) (T := TX4) (N := 8) hx hb hts hinX4 hown hK hP 0 rfl rfl 0 (by decide) q1 (fun _ h9 => h9) rfl dX4_gates_218 ?_
          refine lv_sipush (v := 1040) hx hb dX4_gates_221 (by decide) ?_
          refine lv_dup2_11 hx hb dX4_gates_224 rfl rfl ?_
          refine va_iald hx hb hK hP 1 0 rfl rfl (kin_lit (j := 1040) (n := 1203) (by decide) (by decide)) dX4_gates_225 ?_
          refine kw_top (v := .int (g73 1040)) rfl ?_
          refine lv_iconst (v := 1) hx hb dX4_gates_226 (by decide) ?_
          refine lv_iadd hx hb dX4_gates_227 ?_
          refine va_iast hx hb hK hP hD hS 1 0 rfl rfl (kin_lit (j := 1040) (n := 1203) (by decide) (by decide)) dX4_gates_228 (fun H locs hP hD hS => ?_)
          have hP : va_P D vwCl (mnW cI am sv rf ln hs (upd g73 1040 ((g73 1040) + 1))) H := hP
          have hD : va_D A (mnW cI am sv rf ln hs (upd g73 1040 ((g73 1040) + 1))) := hD
          generalize eg74 : upd g73 1040 ((g73 1040) + 1) = g74 at hR hP hD hF
          replace hR := bnd_e hR
          replace hF := bnd_p hF
          refine lv_aload_n hx hb dX4_gates_229 rfl (lv_at hl 3 rfl) ?_
          refine va_get (D := D) (ci := 4) (v := .ref (am 1)) (C := RX4) (T := TX4) (N := 8) hx hb hts hinX4 hown hK hP 0 rfl rfl 0 (by decide) q1 (fun _ h9 => h9) rfl dX4_gates_230 ?_
          refine lv_bipush (v := 12) hx hb dX4_gates_233 (by decide) ?_
          refine lv_dup2_11 hx hb dX4_gates_235 rfl rfl ?_
          refine va_iald hx hb hK hP 1 0 rfl rfl (kin_lit (j := 12) (n := 1203) (by decide) (by decide)) dX4_gates_236 ?_
          refine kw_top (v := .int (g74 12)) rfl ?_
          refine lv_iconst (v := 1) hx hb dX4_gates_237 (by decide) ?_
          refine lv_iadd hx hb dX4_gates_238 ?_
          refine va_iast hx hb hK hP hD hS 1 0 rfl rfl (kin_lit (j := 12) (n := 1203) (by decide) (by decide)) dX4_gates_239 (fun H locs hP hD hS => ?_)
          have hP : va_P D vwCl (mnW cI am sv rf ln hs (upd g74 12 ((g74 12) + 1))) H := hP
          have hD : va_D A (mnW cI am sv rf ln hs (upd g74 12 ((g74 12) + 1))) := hD
          generalize eg75 : upd g74 12 ((g74 12) + 1) = g75 at hR hP hD hF
          replace hR := bnd_e hR
          replace hF := bnd_p hF
          refine lv_aload_n hx hb dX4_gates_240 rfl (lv_at hl 3 rfl) ?_
          refine va_get (D := D) (ci := 4) (v := .ref (am 1)) (C := RX4) (T := TX4) (N := 8) hx hb hts hinX4 hown hK hP 0 rfl rfl 0 (by decide) q1 (fun _ h9 => h9) rfl dX4_gates_241 ?_
          refine lv_bipush (v := 12) hx hb dX4_gates_244 (by decide) ?_
          refine va_iald hx hb hK hP 1 0 rfl rfl (kin_lit (j := 12) (n := 1203) (by decide) (by decide)) dX4_gates_246 ?_
          refine kw_top (v := .int (g75 12)) rfl ?_
          refine lv_aload_n hx hb dX4_gates_247 rfl (lv_at hl 3 rfl) ?_
          refine va_get (D := D) (ci := 4) (v := .ref (am 1)) (C := RX4) (T := TX4) (N := 8) hx hb hts hinX4 hown hK hP 0 rfl rfl 0 (by decide) q1 (fun _ h9 => h9) rfl dX4_gates_248 ?_
          refine lv_iconst (v := 4) hx hb dX4_gates_251 (by decide) ?_
          refine va_iald hx hb hK hP 1 0 rfl rfl (kin_lit (j := 4) (n := 1203) (by decide) (by decide)) dX4_gates_252 ?_
          refine kw_top (v := .int (g75 4)) rfl ?_
          refine lv_icmp_lt (tgt := 269) hx hb dX4_gates_253 (by decide) (fun c76 => ?_) (fun c76 => ?_)
          · rw [if_pos c76] at hR hF
            refine lv_iconst (v := 0) hx hb dX4_gates_269 (by decide) ?_
            subst hR
            exact krZ hx hb hr hlk hP hD hS dX4_gates_270 (by decide) rfl rfl
          · rw [if_neg c76] at hR hF
            refine lv_aload_n hx hb dX4_gates_256 rfl (lv_at hl 3 rfl) ?_
            refine va_get (D := D) (ci := 4) (v := .ref (am 1)) (C := RX4) (T := TX4) (N := 8) hx hb hts hinX4 hown hK hP 0 rfl rfl 0 (by decide) q1 (fun _ h9 => h9) rfl dX4_gates_257 ?_
            refine lv_bipush (v := 12) hx hb dX4_gates_260 (by decide) ?_
            refine lv_iconst (v := 0) hx hb dX4_gates_262 (by decide) ?_
            refine va_iast hx hb hK hP hD hS 1 0 rfl rfl (kin_lit (j := 12) (n := 1203) (by decide) (by decide)) dX4_gates_263 (fun H locs hP hD hS => ?_)
            have hP : va_P D vwCl (mnW cI am sv rf ln hs (upd g75 12 0)) H := hP
            have hD : va_D A (mnW cI am sv rf ln hs (upd g75 12 0)) := hD
            generalize eg77 : upd g75 12 0 = g77 at hR hP hD hF
            replace hR := bnd_e hR
            replace hF := bnd_p hF
            refine lv_aload_n hx hb dX4_gates_264 rfl (lv_at hl 3 rfl) ?_
            refine lv_iconst (v := 1) hx hb dX4_gates_265 (by decide) ?_
            have hs79 := hF
            refine kcV (ci := 4) (q0 := 0) (As := [.int 1]) (rest := []) E.1 (cx4_alarms E am sv rf ln hs g77 1 hs79) hX (cwV 1 hts gX4_gates_X4_alarms rfl rfl rfl hdX4_alarms ⟨Nat.le_of_ble_eq_true rfl, Nat.le_of_ble_eq_true rfl⟩) hKs hK hP hD hS hA _ _ (kw_self _) (kw_self _).symm rfl rfl rfl rfl hl.1 (Nat.le_of_ble_eq_true rfl) dX4_gates_266 ⟨Nat.zero_le _, Nat.zero_le _⟩ (fun H locs hP hD hS => ?_)
            have hP : va_P D vwCl (mnW cI am sv rf ln hs (fx4_alarms g77 1)) H := hP
            have hD : va_D A (mnW cI am sv rf ln hs (fx4_alarms g77 1)) := hD
            generalize eg78 : fx4_alarms g77 1 = g78 at hR hP hD
            replace hR := bnd_e hR
            refine lv_iconst (v := 0) hx hb dX4_gates_269 (by decide) ?_
            subst hR
            exact krZ hx hb hr hlk hP hD hS dX4_gates_270 (by decide) rfl rfl
        · rw [if_neg c71] at hR hF
          refine lv_aload_n hx hb dX4_gates_121 rfl (lv_at hl 3 rfl) ?_
          refine lv_bipush (v := 36) hx hb dX4_gates_122 (by decide) ?_
          refine lv_bipush (v := 37) hx hb dX4_gates_124 (by decide) ?_
          refine lv_iconst (v := 4) hx hb dX4_gates_126 (by decide) ?_
          refine lv_iload hx hb dX4_gates_127 (lv_at hl 0 rfl) ?_
          obtain ⟨hs93, hF⟩ := hF
          refine kcV (ci := 4) (q0 := 0) (As := [.int 36, .int 37, .int 4, .int v70]) (rest := []) E.1 (cx4_drops E am sv rf ln hs g69 36 37 4 v70 hs93) hX (cwV 4 hts gX4_gates_X4_drops rfl rfl rfl hdX4_drops ⟨Nat.le_of_ble_eq_true rfl, Nat.le_of_ble_eq_true rfl⟩) hKs hK hP hD hS hA _ _ (kw_self _) (kw_self _).symm rfl rfl rfl rfl hl.1 (Nat.le_of_ble_eq_true rfl) dX4_gates_129 ⟨Nat.zero_le _, Nat.zero_le _⟩ (fun H locs hP hD hS => ?_)
          have hP : va_P D vwCl (mnW cI am sv rf ln hs (fx4_drops g69 36 37 4 v70)) H := hP
          have hD : va_D A (mnW cI am sv rf ln hs (fx4_drops g69 36 37 4 v70)) := hD
          generalize eg80 : fx4_drops g69 36 37 4 v70 = g80 at hR hF hP hD
          replace hR := bnd_e hR
          replace hF := bnd_p hF
          refine lv_aload_n hx hb dX4_gates_132 rfl (lv_at hl 3 rfl) ?_
          refine va_get (D := D) (ci := 4) (v := .ref (am 1)) (C := RX4) (T := TX4) (N := 8) hx hb hts hinX4 hown hK hP 0 rfl rfl 0 (by decide) q1 (fun _ h9 => h9) rfl dX4_gates_133 ?_
          refine lv_bipush (v := 35) hx hb dX4_gates_136 (by decide) ?_
          refine lv_dup2_11 hx hb dX4_gates_138 rfl rfl ?_
          refine va_iald hx hb hK hP 1 0 rfl rfl (kin_lit (j := 35) (n := 1203) (by decide) (by decide)) dX4_gates_139 ?_
          refine kw_top (v := .int (g80 35)) rfl ?_
          refine lv_iconst (v := 1) hx hb dX4_gates_140 (by decide) ?_
          refine lv_iadd hx hb dX4_gates_141 ?_
          refine va_iast hx hb hK hP hD hS 1 0 rfl rfl (kin_lit (j := 35) (n := 1203) (by decide) (by decide)) dX4_gates_142 (fun H locs hP hD hS => ?_)
          have hP : va_P D vwCl (mnW cI am sv rf ln hs (upd g80 35 ((g80 35) + 1))) H := hP
          have hD : va_D A (mnW cI am sv rf ln hs (upd g80 35 ((g80 35) + 1))) := hD
          generalize eg81 : upd g80 35 ((g80 35) + 1) = g81 at hR hP hD hF
          replace hR := bnd_e hR
          replace hF := bnd_p hF
          refine lv_aload_n hx hb dX4_gates_143 rfl (lv_at hl 3 rfl) ?_
          refine va_get (D := D) (ci := 4) (v := .ref (am 1)) (C := RX4) (T := TX4) (N := 8) hx hb hts hinX4 hown hK hP 0 rfl rfl 0 (by decide) q1 (fun _ h9 => h9) rfl dX4_gates_144 ?_
          refine lv_sipush (v := 960) hx hb dX4_gates_147 (by decide) ?_
          refine lv_aload_n hx hb dX4_gates_150 rfl (lv_at hl 3 rfl) ?_
          refine va_get (D := D) (ci := 4) (v := .ref (am 1)) (C := RX4) (T := TX4) (N := 8) hx hb hts hinX4 hown hK hP 0 rfl rfl 0 (by decide) q1 (fun _ h9 => h9) rfl dX4_gates_151 ?_
          refine lv_sipush (v := 959) hx hb dX4_gates_154 (by decide) ?_
          refine va_iald hx hb hK hP 1 0 rfl rfl (kin_lit (j := 959) (n := 1203) (by decide) (by decide)) dX4_gates_157 ?_
          refine kw_top (v := .int (g81 959)) rfl ?_
          refine lv_iadd hx hb dX4_gates_158 ?_
          refine lv_aload_n hx hb dX4_gates_159 rfl (lv_at hl 3 rfl) ?_
          refine va_get (D := D) (ci := 4) (v := .ref (am 1)) (C := RX4) (T := TX4) (N := 8) hx hb hts hinX4 hown hK hP 0 rfl rfl 0 (by decide) q1 (fun _ h9 => h9) rfl dX4_gates_160 ?_
          refine lv_bipush (v := 14) hx hb dX4_gates_163 (by decide) ?_
          refine va_iald hx hb hK hP 1 0 rfl rfl (kin_lit (j := 14) (n := 1203) (by decide) (by decide)) dX4_gates_165 ?_
          refine kw_top (v := .int (g81 14)) rfl ?_
          refine lv_aload_n hx hb dX4_gates_166 rfl (lv_at hl 3 rfl) ?_
          refine va_get (D := D) (ci := 4) (v := .ref (am 1)) (C := RX4) (T := TX4) (N := 8) hx hb hts hinX4 hown hK hP 0 rfl rfl 0 (by decide) q1 (fun _ h9 => h9) rfl dX4_gates_167 ?_
          refine lv_iconst (v := 2) hx hb dX4_gates_170 (by decide) ?_
          refine va_iald hx hb hK hP 1 0 rfl rfl (kin_lit (j := 2) (n := 1203) (by decide) (by decide)) dX4_gates_171 ?_
          refine kw_top (v := .int (g81 2)) rfl ?_
          refine lv_iadd hx hb dX4_gates_172 ?_
          obtain ⟨hi82, hF⟩ := hF
          refine va_iast hx hb hK hP hD hS 1 0 rfl rfl hi82 dX4_gates_173 (fun H locs hP hD hS => ?_)
          have hP : va_P D vwCl (mnW cI am sv rf ln hs (upd g81 (960 + (g81 959)).toNatClampNeg ((g81 14) + (g81 2)))) H := hP
          have hD : va_D A (mnW cI am sv rf ln hs (upd g81 (960 + (g81 959)).toNatClampNeg ((g81 14) + (g81 2)))) := hD
          generalize eg83 : upd g81 (960 + (g81 959)).toNatClampNeg ((g81 14) + (g81 2)) = g83 at hR hP hD hF
          replace hR := bnd_e hR
          replace hF := bnd_p hF
          refine lv_aload_n hx hb dX4_gates_174 rfl (lv_at hl 3 rfl) ?_
          refine va_get (D := D) (ci := 4) (v := .ref (am 1)) (C := RX4) (T := TX4) (N := 8) hx hb hts hinX4 hown hK hP 0 rfl rfl 0 (by decide) q1 (fun _ h9 => h9) rfl dX4_gates_175 ?_
          refine lv_sipush (v := 959) hx hb dX4_gates_178 (by decide) ?_
          refine lv_dup2_11 hx hb dX4_gates_181 rfl rfl ?_
          refine va_iald hx hb hK hP 1 0 rfl rfl (kin_lit (j := 959) (n := 1203) (by decide) (by decide)) dX4_gates_182 ?_
          refine kw_top (v := .int (g83 959)) rfl ?_
          refine lv_iconst (v := 1) hx hb dX4_gates_183 (by decide) ?_
          refine lv_iadd hx hb dX4_gates_184 ?_
          refine va_iast hx hb hK hP hD hS 1 0 rfl rfl (kin_lit (j := 959) (n := 1203) (by decide) (by decide)) dX4_gates_185 (fun H locs hP hD hS => ?_)
          have hP : va_P D vwCl (mnW cI am sv rf ln hs (upd g83 959 ((g83 959) + 1))) H := hP
          have hD : va_D A (mnW cI am sv rf ln hs (upd g83 959 ((g83 959) + 1))) := hD
          generalize eg84 : upd g83 959 ((g83 959) + 1) = g84 at hR hP hD hF
          replace hR := bnd_e hR
          replace hF := bnd_p hF
          refine lv_aload_n hx hb dX4_gates_186 rfl (lv_at hl 3 rfl) ?_
          refine va_get (D := D) (ci := 4) (v := .ref (am 1)) (C := RX4) (T := TX4) (N := 8) hx hb hts hinX4 hown hK hP 0 rfl rfl 0 (by decide) q1 (fun _ h9 => h9) rfl dX4_gates_187 ?_
          refine lv_sipush (v := 1041) hx hb dX4_gates_190 (by decide) ?_
          refine lv_aload_n hx hb dX4_gates_193 rfl (lv_at hl 3 rfl) ?_
          refine va_get (D := D) (ci := 4) (v := .ref (am 1)) (C := RX4) (T := TX4) (N := 8) hx hb hts hinX4 hown hK hP 0 rfl rfl 0 (by decide) q1 (fun _ h9 => h9) rfl dX4_gates_194 ?_
          refine lv_sipush (v := 1040) hx hb dX4_gates_197 (by decide) ?_
          refine va_iald hx hb hK hP 1 0 rfl rfl (kin_lit (j := 1040) (n := 1203) (by decide) (by decide)) dX4_gates_200 ?_
          refine kw_top (v := .int (g84 1040)) rfl ?_
          refine lv_iadd hx hb dX4_gates_201 ?_
          refine lv_aload_n hx hb dX4_gates_202 rfl (lv_at hl 3 rfl) ?_
          refine va_get (D := D) (ci := 4) (v := .ref (am 1)) (C := RX4) (T := TX4) (N := 8) hx hb hts hinX4 hown hK hP 0 rfl rfl 0 (by decide) q1 (fun _ h9 => h9) rfl dX4_gates_203 ?_
          refine lv_bipush (v := 14) hx hb dX4_gates_206 (by decide) ?_
          refine va_iald hx hb hK hP 1 0 rfl rfl (kin_lit (j := 14) (n := 1203) (by decide) (by decide)) dX4_gates_208 ?_
          refine kw_top (v := .int (g84 14)) rfl ?_
          refine lv_aload_n hx hb dX4_gates_209 rfl (lv_at hl 3 rfl) ?_
          refine va_get (D := D) (ci := 4) (v := .ref (am 1)) (C := RX4) (T := TX4) (N := 8) hx hb hts hinX4 hown hK hP 0 rfl rfl 0 (by decide) q1 (fun _ h9 => h9) rfl dX4_gates_210 ?_
          refine lv_iconst (v := 3) hx hb dX4_gates_213 (by decide) ?_
          refine va_iald hx hb hK hP 1 0 rfl rfl (kin_lit (j := 3) (n := 1203) (by decide) (by decide)) dX4_gates_214 ?_
          refine kw_top (v := .int (g84 3)) rfl ?_
          refine lv_iadd hx hb dX4_gates_215 ?_
          obtain ⟨hi85, hF⟩ := hF
          refine va_iast hx hb hK hP hD hS 1 0 rfl rfl hi85 dX4_gates_216 (fun H locs hP hD hS => ?_)
          have hP : va_P D vwCl (mnW cI am sv rf ln hs (upd g84 (1041 + (g84 1040)).toNatClampNeg ((g84 14) + (g84 3)))) H := hP
          have hD : va_D A (mnW cI am sv rf ln hs (upd g84 (1041 + (g84 1040)).toNatClampNeg ((g84 14) + (g84 3)))) := hD
          generalize eg86 : upd g84 (1041 + (g84 1040)).toNatClampNeg ((g84 14) + (g84 3)) = g86 at hR hP hD hF
          replace hR := bnd_e hR
          replace hF := bnd_p hF
          refine lv_aload_n hx hb dX4_gates_217 rfl (lv_at hl 3 rfl) ?_
          refine va_get (D := D) (ci := 4) (v := .ref (am 1)) (C := RX4) (T := TX4) (N := 8) hx hb hts hinX4 hown hK hP 0 rfl rfl 0 (by decide) q1 (fun _ h9 => h9) rfl dX4_gates_218 ?_
          refine lv_sipush (v := 1040) hx hb dX4_gates_221 (by decide) ?_
          refine lv_dup2_11 hx hb dX4_gates_224 rfl rfl ?_
          refine va_iald hx hb hK hP 1 0 rfl rfl (kin_lit (j := 1040) (n := 1203) (by decide) (by decide)) dX4_gates_225 ?_
          refine kw_top (v := .int (g86 1040)) rfl ?_
          refine lv_iconst (v := 1) hx hb dX4_gates_226 (by decide) ?_
          refine lv_iadd hx hb dX4_gates_227 ?_
          refine va_iast hx hb hK hP hD hS 1 0 rfl rfl (kin_lit (j := 1040) (n := 1203) (by decide) (by decide)) dX4_gates_228 (fun H locs hP hD hS => ?_)
          have hP : va_P D vwCl (mnW cI am sv rf ln hs (upd g86 1040 ((g86 1040) + 1))) H := hP
          have hD : va_D A (mnW cI am sv rf ln hs (upd g86 1040 ((g86 1040) + 1))) := hD
          generalize eg87 : upd g86 1040 ((g86 1040) + 1) = g87 at hR hP hD hF
          replace hR := bnd_e hR
          replace hF := bnd_p hF
          refine lv_aload_n hx hb dX4_gates_229 rfl (lv_at hl 3 rfl) ?_
          refine va_get (D := D) (ci := 4) (v := .ref (am 1)) (C := RX4) (T := TX4) (N := 8) hx hb hts hinX4 hown hK hP 0 rfl rfl 0 (by decide) q1 (fun _ h9 => h9) rfl dX4_gates_230 ?_
          refine lv_bipush (v := 12) hx hb dX4_gates_233 (by decide) ?_
          refine lv_dup2_11 hx hb dX4_gates_235 rfl rfl ?_
          refine va_iald hx hb hK hP 1 0 rfl rfl (kin_lit (j := 12) (n := 1203) (by decide) (by decide)) dX4_gates_236 ?_
          refine kw_top (v := .int (g87 12)) rfl ?_
          refine lv_iconst (v := 1) hx hb dX4_gates_237 (by decide) ?_
          refine lv_iadd hx hb dX4_gates_238 ?_
          refine va_iast hx hb hK hP hD hS 1 0 rfl rfl (kin_lit (j := 12) (n := 1203) (by decide) (by decide)) dX4_gates_239 (fun H locs hP hD hS => ?_)
          have hP : va_P D vwCl (mnW cI am sv rf ln hs (upd g87 12 ((g87 12) + 1))) H := hP
          have hD : va_D A (mnW cI am sv rf ln hs (upd g87 12 ((g87 12) + 1))) := hD
          generalize eg88 : upd g87 12 ((g87 12) + 1) = g88 at hR hP hD hF
          replace hR := bnd_e hR
          replace hF := bnd_p hF
          refine lv_aload_n hx hb dX4_gates_240 rfl (lv_at hl 3 rfl) ?_
          refine va_get (D := D) (ci := 4) (v := .ref (am 1)) (C := RX4) (T := TX4) (N := 8) hx hb hts hinX4 hown hK hP 0 rfl rfl 0 (by decide) q1 (fun _ h9 => h9) rfl dX4_gates_241 ?_
          refine lv_bipush (v := 12) hx hb dX4_gates_244 (by decide) ?_
          refine va_iald hx hb hK hP 1 0 rfl rfl (kin_lit (j := 12) (n := 1203) (by decide) (by decide)) dX4_gates_246 ?_
          refine kw_top (v := .int (g88 12)) rfl ?_
          refine lv_aload_n hx hb dX4_gates_247 rfl (lv_at hl 3 rfl) ?_
          refine va_get (D := D) (ci := 4) (v := .ref (am 1)) (C := RX4) (T := TX4) (N := 8) hx hb hts hinX4 hown hK hP 0 rfl rfl 0 (by decide) q1 (fun _ h9 => h9) rfl dX4_gates_248 ?_
          refine lv_iconst (v := 4) hx hb dX4_gates_251 (by decide) ?_
          refine va_iald hx hb hK hP 1 0 rfl rfl (kin_lit (j := 4) (n := 1203) (by decide) (by decide)) dX4_gates_252 ?_
          refine kw_top (v := .int (g88 4)) rfl ?_
          refine lv_icmp_lt (tgt := 269) hx hb dX4_gates_253 (by decide) (fun c89 => ?_) (fun c89 => ?_)
          · rw [if_pos c89] at hR hF
            refine lv_iconst (v := 0) hx hb dX4_gates_269 (by decide) ?_
            subst hR
            exact krZ hx hb hr hlk hP hD hS dX4_gates_270 (by decide) rfl rfl
          · rw [if_neg c89] at hR hF
            refine lv_aload_n hx hb dX4_gates_256 rfl (lv_at hl 3 rfl) ?_
            refine va_get (D := D) (ci := 4) (v := .ref (am 1)) (C := RX4) (T := TX4) (N := 8) hx hb hts hinX4 hown hK hP 0 rfl rfl 0 (by decide) q1 (fun _ h9 => h9) rfl dX4_gates_257 ?_
            refine lv_bipush (v := 12) hx hb dX4_gates_260 (by decide) ?_
            refine lv_iconst (v := 0) hx hb dX4_gates_262 (by decide) ?_
            refine va_iast hx hb hK hP hD hS 1 0 rfl rfl (kin_lit (j := 12) (n := 1203) (by decide) (by decide)) dX4_gates_263 (fun H locs hP hD hS => ?_)
            have hP : va_P D vwCl (mnW cI am sv rf ln hs (upd g88 12 0)) H := hP
            have hD : va_D A (mnW cI am sv rf ln hs (upd g88 12 0)) := hD
            generalize eg90 : upd g88 12 0 = g90 at hR hP hD hF
            replace hR := bnd_e hR
            replace hF := bnd_p hF
            refine lv_aload_n hx hb dX4_gates_264 rfl (lv_at hl 3 rfl) ?_
            refine lv_iconst (v := 1) hx hb dX4_gates_265 (by decide) ?_
            have hs92 := hF
            refine kcV (ci := 4) (q0 := 0) (As := [.int 1]) (rest := []) E.1 (cx4_alarms E am sv rf ln hs g90 1 hs92) hX (cwV 1 hts gX4_gates_X4_alarms rfl rfl rfl hdX4_alarms ⟨Nat.le_of_ble_eq_true rfl, Nat.le_of_ble_eq_true rfl⟩) hKs hK hP hD hS hA _ _ (kw_self _) (kw_self _).symm rfl rfl rfl rfl hl.1 (Nat.le_of_ble_eq_true rfl) dX4_gates_266 ⟨Nat.zero_le _, Nat.zero_le _⟩ (fun H locs hP hD hS => ?_)
            have hP : va_P D vwCl (mnW cI am sv rf ln hs (fx4_alarms g90 1)) H := hP
            have hD : va_D A (mnW cI am sv rf ln hs (fx4_alarms g90 1)) := hD
            generalize eg91 : fx4_alarms g90 1 = g91 at hR hP hD
            replace hR := bnd_e hR
            refine lv_iconst (v := 0) hx hb dX4_gates_269 (by decide) ?_
            subst hR
            exact krZ hx hb hr hlk hP hD hS dX4_gates_270 (by decide) rfl rfl
    · rw [if_pos c63] at hR hF
      refine lv_iload_n hx hb dX4_gates_36 rfl (lv_at hl 0 rfl) ?_
      refine lv_if_ne (tgt := 61) hx hb dX4_gates_37 (by decide) (fun c => absurd (by decide) c) (fun _ => ?_)
      refine lv_aload_n hx hb dX4_gates_40 rfl (lv_at hl 2 rfl) ?_
      refine va_get (D := D) (ci := 4) (v := .ref (am 1)) (C := RX4) (T := TX4) (N := 8) hx hb hts hinX4 hown hK hP 0 rfl rfl 0 (by decide) q1 (fun _ h9 => h9) rfl dX4_gates_41 ?_
      refine lv_iload_n hx hb dX4_gates_44 rfl (lv_at hl 3 rfl) ?_
      refine lv_iconst (v := 4) hx hb dX4_gates_45 (by decide) ?_
      refine kcsI (As := [.int x1, .int 4]) (rest := [.ref (am 1)]) E.1 (cx4_entry E x1 4) hX (va_cwS 2 hts gX4_gates_X4_entry rfl rfl rfl hdX4_entry.2 ⟨Nat.le_of_ble_eq_true rfl, Nat.le_of_ble_eq_true rfl⟩) hKs hP hD hS hA _ _ (kw_nil _) (kw_nil _).symm rfl rfl hl.1 (Nat.le_of_ble_eq_true rfl) dX4_gates_46 ⟨Nat.zero_le _, Nat.zero_le _⟩ (fun H locs hP hD hS => ?_)
      refine lv_iconst (v := 1) hx hb dX4_gates_49 (by decide) ?_
      have hi64 := hF
      refine va_iast hx hb hK hP hD hS 1 0 rfl rfl hi64 dX4_gates_50 (fun H locs hP hD hS => ?_)
      have hP : va_P D vwCl (mnW cI am sv rf ln hs (upd g (fx4_entry x1 4).toNatClampNeg 1)) H := hP
      have hD : va_D A (mnW cI am sv rf ln hs (upd g (fx4_entry x1 4).toNatClampNeg 1)) := hD
      generalize eg65 : upd g (fx4_entry x1 4).toNatClampNeg 1 = g65 at hR hP hD
      replace hR := bnd_e hR
      refine lv_aload_n hx hb dX4_gates_51 rfl (lv_at hl 2 rfl) ?_
      refine va_get (D := D) (ci := 4) (v := .ref (am 1)) (C := RX4) (T := TX4) (N := 8) hx hb hts hinX4 hown hK hP 0 rfl rfl 0 (by decide) q1 (fun _ h9 => h9) rfl dX4_gates_52 ?_
      refine lv_bipush (v := 12) hx hb dX4_gates_55 (by decide) ?_
      refine lv_iconst (v := 0) hx hb dX4_gates_57 (by decide) ?_
      refine va_iast hx hb hK hP hD hS 1 0 rfl rfl (kin_lit (j := 12) (n := 1203) (by decide) (by decide)) dX4_gates_58 (fun H locs hP hD hS => ?_)
      have hP : va_P D vwCl (mnW cI am sv rf ln hs (upd g65 12 0)) H := hP
      have hD : va_D A (mnW cI am sv rf ln hs (upd g65 12 0)) := hD
      generalize eg66 : upd g65 12 0 = g66 at hR hP hD
      replace hR := bnd_e hR
      refine lv_iconst (v := 1) hx hb dX4_gates_59 (by decide) ?_
      subst hR
      exact krZ hx hb hr hlk hP hD hS dX4_gates_60 (by decide) rfl rfl
  · rw [if_pos c3] at hR hF
    refine lv_iconst (v := 1) hx hb dX4_gates_25 (by decide) ?_
    refine lv_goto (tgt := 30) hx hb dX4_gates_26 (by decide) ?_
    refine lv_istore_n (lv' := [(3, .int 1), (2, .int (g (fx4_entry x1 2).toNatClampNeg)), (0, .ref (am 0)), (1, .int x1)]) hx hb dX4_gates_30 rfl hl (by decide) rfl (fun ls hl => ?_)
    refine lv_iload_n hx hb dX4_gates_31 rfl (lv_at hl 1 rfl) ?_
    refine lv_iconst (v := 1) hx hb dX4_gates_32 (by decide) ?_
    refine lv_icmp_ne (tgt := 61) hx hb dX4_gates_33 (by decide) (fun c4 => ?_) (fun c4 => ?_)
    · rw [if_neg c4] at hR hF
      refine lv_aload_n hx hb dX4_gates_61 rfl (lv_at hl 2 rfl) ?_
      refine lv_iload_n hx hb dX4_gates_62 rfl (lv_at hl 0 rfl) ?_
      refine lv_if_eq (tgt := 71) hx hb dX4_gates_63 (by decide) (fun c => absurd c (by decide)) (fun _ => ?_)
      refine lv_bipush (v := 10) hx hb dX4_gates_66 (by decide) ?_
      refine lv_goto (tgt := 93) hx hb dX4_gates_68 (by decide) ?_
      obtain ⟨hs62, hF⟩ := hF
      refine kcV (ci := 4) (q0 := 0) (As := [.int 10]) (rest := []) E.1 (cx4_counts E am sv rf ln hs g 10 hs62) hX (cwV 1 hts gX4_gates_X4_counts rfl rfl rfl hdX4_counts ⟨Nat.le_of_ble_eq_true rfl, Nat.le_of_ble_eq_true rfl⟩) hKs hK hP hD hS hA _ _ (kw_self _) (kw_self _).symm rfl rfl rfl rfl hl.1 (Nat.le_of_ble_eq_true rfl) dX4_gates_93 ⟨Nat.zero_le _, Nat.zero_le _⟩ (fun H locs hP hD hS => ?_)
      have hP : va_P D vwCl (mnW cI am sv rf ln hs (fx4_counts g 10)) H := hP
      have hD : va_D A (mnW cI am sv rf ln hs (fx4_counts g 10)) := hD
      generalize eg34 : fx4_counts g 10 = g34 at hR hF hP hD
      replace hR := bnd_e hR
      replace hF := bnd_p hF
      refine lv_aload_n hx hb dX4_gates_96 rfl (lv_at hl 2 rfl) ?_
      refine lv_iload_n hx hb dX4_gates_97 rfl (lv_at hl 3 rfl) ?_
      refine lv_iconst (v := 2) hx hb dX4_gates_98 (by decide) ?_
      obtain ⟨hs61, hF⟩ := hF
      refine kcV (ci := 4) (q0 := 0) (As := [.int x1, .int 2]) (rest := []) E.1 (cx4_leaves E am sv rf ln hs g34 x1 2 hs61) hX (cwV 2 hts gX4_gates_X4_leaves rfl rfl rfl hdX4_leaves ⟨Nat.le_of_ble_eq_true rfl, Nat.le_of_ble_eq_true rfl⟩) hKs hK hP hD hS hA _ _ (kw_self _) (kw_self _).symm rfl rfl rfl rfl hl.1 (Nat.le_of_ble_eq_true rfl) dX4_gates_99 ⟨Nat.zero_le _, Nat.zero_le _⟩ (fun H locs hP hD hS => ?_)
      have hP : va_P D vwCl (mnW cI am sv rf ln hs (fx4_leaves g34 x1 2)) H := hP
      have hD : va_D A (mnW cI am sv rf ln hs (fx4_leaves g34 x1 2)) := hD
      generalize eg35 : fx4_leaves g34 x1 2 = g35 at hR hF hP hD
      replace hR := bnd_e hR
      replace hF := bnd_p hF
      refine lv_aload_n hx hb dX4_gates_102 rfl (lv_at hl 2 rfl) ?_
      refine lv_aload_n hx hb dX4_gates_103 rfl (lv_at hl 2 rfl) ?_
      refine va_get (D := D) (ci := 4) (v := .ref (am 1)) (C := RX4) (T := TX4) (N := 8) hx hb hts hinX4 hown hK hP 0 rfl rfl 0 (by decide) q1 (fun _ h9 => h9) rfl dX4_gates_104 ?_
      refine lv_bipush (v := 10) hx hb dX4_gates_107 (by decide) ?_
      refine va_iald hx hb hK hP 1 0 rfl rfl (kin_lit (j := 10) (n := 1203) (by decide) (by decide)) dX4_gates_109 ?_
      refine kw_top (v := .int (g35 10)) rfl ?_
      obtain ⟨hs60, hF⟩ := hF
      refine kcI (ci := 4) (q0 := 0) (As := [.int (g35 10)]) (rest := []) E.1 (cx4_itemAt E am sv rf ln hs g35 (g35 10) hs60) hX (cwV 1 hts gX4_gates_X4_itemAt rfl rfl rfl hdX4_itemAt ⟨Nat.le_of_ble_eq_true rfl, Nat.le_of_ble_eq_true rfl⟩) hKs hK hP hD hS hA _ _ (kw_self _) (kw_self _).symm rfl rfl rfl rfl hl.1 (Nat.le_of_ble_eq_true rfl) dX4_gates_110 ⟨Nat.zero_le _, Nat.zero_le _⟩ (fun H locs hP hD hS => ?_)
      generalize ev36 : fx4_itemAt g35 (g35 10) = v36 at hR hF ⊢
      replace hR := bnd_e hR
      replace hF := bnd_p hF
      refine lv_istore (lv' := [(4, .int v36), (3, .int 1), (2, .int (g (fx4_entry x1 2).toNatClampNeg)), (0, .ref (am 0)), (1, .int x1)]) hx hb dX4_gates_113 hl (by decide) rfl (fun ls hl => ?_)
      refine lv_iload hx hb dX4_gates_115 (lv_at hl 0 rfl) ?_
      refine lv_iconst (v := (-1)) hx hb dX4_gates_117 (by decide) ?_
      refine lv_icmp_eq (tgt := 186) hx hb dX4_gates_118 (by decide) (fun c37 => ?_) (fun c37 => ?_)
      · rw [if_pos c37] at hR hF
        refine lv_aload_n hx hb dX4_gates_186 rfl (lv_at hl 3 rfl) ?_
        refine va_get (D := D) (ci := 4) (v := .ref (am 1)) (C := RX4) (T := TX4) (N := 8) hx hb hts hinX4 hown hK hP 0 rfl rfl 0 (by decide) q1 (fun _ h9 => h9) rfl dX4_gates_187 ?_
        refine lv_sipush (v := 1041) hx hb dX4_gates_190 (by decide) ?_
        refine lv_aload_n hx hb dX4_gates_193 rfl (lv_at hl 3 rfl) ?_
        refine va_get (D := D) (ci := 4) (v := .ref (am 1)) (C := RX4) (T := TX4) (N := 8) hx hb hts hinX4 hown hK hP 0 rfl rfl 0 (by decide) q1 (fun _ h9 => h9) rfl dX4_gates_194 ?_
        refine lv_sipush (v := 1040) hx hb dX4_gates_197 (by decide) ?_
        refine va_iald hx hb hK hP 1 0 rfl rfl (kin_lit (j := 1040) (n := 1203) (by decide) (by decide)) dX4_gates_200 ?_
        refine kw_top (v := .int (g35 1040)) rfl ?_
        refine lv_iadd hx hb dX4_gates_201 ?_
        refine lv_aload_n hx hb dX4_gates_202 rfl (lv_at hl 3 rfl) ?_
        refine va_get (D := D) (ci := 4) (v := .ref (am 1)) (C := RX4) (T := TX4) (N := 8) hx hb hts hinX4 hown hK hP 0 rfl rfl 0 (by decide) q1 (fun _ h9 => h9) rfl dX4_gates_203 ?_
        refine lv_bipush (v := 14) hx hb dX4_gates_206 (by decide) ?_
        refine va_iald hx hb hK hP 1 0 rfl rfl (kin_lit (j := 14) (n := 1203) (by decide) (by decide)) dX4_gates_208 ?_
        refine kw_top (v := .int (g35 14)) rfl ?_
        refine lv_aload_n hx hb dX4_gates_209 rfl (lv_at hl 3 rfl) ?_
        refine va_get (D := D) (ci := 4) (v := .ref (am 1)) (C := RX4) (T := TX4) (N := 8) hx hb hts hinX4 hown hK hP 0 rfl rfl 0 (by decide) q1 (fun _ h9 => h9) rfl dX4_gates_210 ?_
        refine lv_iconst (v := 3) hx hb dX4_gates_213 (by decide) ?_
        refine va_iald hx hb hK hP 1 0 rfl rfl (kin_lit (j := 3) (n := 1203) (by decide) (by decide)) dX4_gates_214 ?_
        refine kw_top (v := .int (g35 3)) rfl ?_
        refine lv_iadd hx hb dX4_gates_215 ?_
        obtain ⟨hi38, hF⟩ := hF
        refine va_iast hx hb hK hP hD hS 1 0 rfl rfl hi38 dX4_gates_216 (fun H locs hP hD hS => ?_)
        have hP : va_P D vwCl (mnW cI am sv rf ln hs (upd g35 (1041 + (g35 1040)).toNatClampNeg ((g35 14) + (g35 3)))) H := hP
        have hD : va_D A (mnW cI am sv rf ln hs (upd g35 (1041 + (g35 1040)).toNatClampNeg ((g35 14) + (g35 3)))) := hD
        generalize eg39 : upd g35 (1041 + (g35 1040)).toNatClampNeg ((g35 14) + (g35 3)) = g39 at hR hP hD hF
        replace hR := bnd_e hR
        replace hF := bnd_p hF
        refine lv_aload_n hx hb dX4_gates_217 rfl (lv_at hl 3 rfl) ?_
        refine va_get (D := D) (ci := 4) (v := .ref (am 1)) (C := RX4) (T := TX4) (N := 8) hx hb hts hinX4 hown hK hP 0 rfl rfl 0 (by decide) q1 (fun _ h9 => h9) rfl dX4_gates_218 ?_
        refine lv_sipush (v := 1040) hx hb dX4_gates_221 (by decide) ?_
        refine lv_dup2_11 hx hb dX4_gates_224 rfl rfl ?_
        refine va_iald hx hb hK hP 1 0 rfl rfl (kin_lit (j := 1040) (n := 1203) (by decide) (by decide)) dX4_gates_225 ?_
        refine kw_top (v := .int (g39 1040)) rfl ?_
        refine lv_iconst (v := 1) hx hb dX4_gates_226 (by decide) ?_
        refine lv_iadd hx hb dX4_gates_227 ?_
        refine va_iast hx hb hK hP hD hS 1 0 rfl rfl (kin_lit (j := 1040) (n := 1203) (by decide) (by decide)) dX4_gates_228 (fun H locs hP hD hS => ?_)
        have hP : va_P D vwCl (mnW cI am sv rf ln hs (upd g39 1040 ((g39 1040) + 1))) H := hP
        have hD : va_D A (mnW cI am sv rf ln hs (upd g39 1040 ((g39 1040) + 1))) := hD
        generalize eg40 : upd g39 1040 ((g39 1040) + 1) = g40 at hR hP hD hF
        replace hR := bnd_e hR
        replace hF := bnd_p hF
        refine lv_aload_n hx hb dX4_gates_229 rfl (lv_at hl 3 rfl) ?_
        refine va_get (D := D) (ci := 4) (v := .ref (am 1)) (C := RX4) (T := TX4) (N := 8) hx hb hts hinX4 hown hK hP 0 rfl rfl 0 (by decide) q1 (fun _ h9 => h9) rfl dX4_gates_230 ?_
        refine lv_bipush (v := 12) hx hb dX4_gates_233 (by decide) ?_
        refine lv_dup2_11 hx hb dX4_gates_235 rfl rfl ?_
        refine va_iald hx hb hK hP 1 0 rfl rfl (kin_lit (j := 12) (n := 1203) (by decide) (by decide)) dX4_gates_236 ?_
        refine kw_top (v := .int (g40 12)) rfl ?_
        refine lv_iconst (v := 1) hx hb dX4_gates_237 (by decide) ?_
        refine lv_iadd hx hb dX4_gates_238 ?_
        refine va_iast hx hb hK hP hD hS 1 0 rfl rfl (kin_lit (j := 12) (n := 1203) (by decide) (by decide)) dX4_gates_239 (fun H locs hP hD hS => ?_)
        have hP : va_P D vwCl (mnW cI am sv rf ln hs (upd g40 12 ((g40 12) + 1))) H := hP
        have hD : va_D A (mnW cI am sv rf ln hs (upd g40 12 ((g40 12) + 1))) := hD
        generalize eg41 : upd g40 12 ((g40 12) + 1) = g41 at hR hP hD hF
        replace hR := bnd_e hR
        replace hF := bnd_p hF
        refine lv_aload_n hx hb dX4_gates_240 rfl (lv_at hl 3 rfl) ?_
        refine va_get (D := D) (ci := 4) (v := .ref (am 1)) (C := RX4) (T := TX4) (N := 8) hx hb hts hinX4 hown hK hP 0 rfl rfl 0 (by decide) q1 (fun _ h9 => h9) rfl dX4_gates_241 ?_
        refine lv_bipush (v := 12) hx hb dX4_gates_244 (by decide) ?_
        refine va_iald hx hb hK hP 1 0 rfl rfl (kin_lit (j := 12) (n := 1203) (by decide) (by decide)) dX4_gates_246 ?_
        refine kw_top (v := .int (g41 12)) rfl ?_
        refine lv_aload_n hx hb dX4_gates_247 rfl (lv_at hl 3 rfl) ?_
        refine va_get (D := D) (ci := 4) (v := .ref (am 1)) (C := RX4) (T := TX4) (N := 8) hx hb hts hinX4 hown hK hP 0 rfl rfl 0 (by decide) q1 (fun _ h9 => h9) rfl dX4_gates_248 ?_
        refine lv_iconst (v := 4) hx hb dX4_gates_251 (by decide) ?_
        refine va_iald hx hb hK hP 1 0 rfl rfl (kin_lit (j := 4) (n := 1203) (by decide) (by decide)) dX4_gates_252 ?_
        refine kw_top (v := .int (g41 4)) rfl ?_
        refine lv_icmp_lt (tgt := 269) hx hb dX4_gates_253 (by decide) (fun c42 => ?_) (fun c42 => ?_)
        · rw [if_pos c42] at hR hF
          refine lv_iconst (v := 0) hx hb dX4_gates_269 (by decide) ?_
          subst hR
          exact krZ hx hb hr hlk hP hD hS dX4_gates_270 (by decide) rfl rfl
        · rw [if_neg c42] at hR hF
          refine lv_aload_n hx hb dX4_gates_256 rfl (lv_at hl 3 rfl) ?_
          refine va_get (D := D) (ci := 4) (v := .ref (am 1)) (C := RX4) (T := TX4) (N := 8) hx hb hts hinX4 hown hK hP 0 rfl rfl 0 (by decide) q1 (fun _ h9 => h9) rfl dX4_gates_257 ?_
          refine lv_bipush (v := 12) hx hb dX4_gates_260 (by decide) ?_
          refine lv_iconst (v := 0) hx hb dX4_gates_262 (by decide) ?_
          refine va_iast hx hb hK hP hD hS 1 0 rfl rfl (kin_lit (j := 12) (n := 1203) (by decide) (by decide)) dX4_gates_263 (fun H locs hP hD hS => ?_)
          have hP : va_P D vwCl (mnW cI am sv rf ln hs (upd g41 12 0)) H := hP
          have hD : va_D A (mnW cI am sv rf ln hs (upd g41 12 0)) := hD
          generalize eg43 : upd g41 12 0 = g43 at hR hP hD hF
          replace hR := bnd_e hR
          replace hF := bnd_p hF
          refine lv_aload_n hx hb dX4_gates_264 rfl (lv_at hl 3 rfl) ?_
          refine lv_iconst (v := 1) hx hb dX4_gates_265 (by decide) ?_
          have hs45 := hF
          refine kcV (ci := 4) (q0 := 0) (As := [.int 1]) (rest := []) E.1 (cx4_alarms E am sv rf ln hs g43 1 hs45) hX (cwV 1 hts gX4_gates_X4_alarms rfl rfl rfl hdX4_alarms ⟨Nat.le_of_ble_eq_true rfl, Nat.le_of_ble_eq_true rfl⟩) hKs hK hP hD hS hA _ _ (kw_self _) (kw_self _).symm rfl rfl rfl rfl hl.1 (Nat.le_of_ble_eq_true rfl) dX4_gates_266 ⟨Nat.zero_le _, Nat.zero_le _⟩ (fun H locs hP hD hS => ?_)
          have hP : va_P D vwCl (mnW cI am sv rf ln hs (fx4_alarms g43 1)) H := hP
          have hD : va_D A (mnW cI am sv rf ln hs (fx4_alarms g43 1)) := hD
          generalize eg44 : fx4_alarms g43 1 = g44 at hR hP hD
          replace hR := bnd_e hR
          refine lv_iconst (v := 0) hx hb dX4_gates_269 (by decide) ?_
          subst hR
          exact krZ hx hb hr hlk hP hD hS dX4_gates_270 (by decide) rfl rfl
      · rw [if_neg c37] at hR hF
        refine lv_aload_n hx hb dX4_gates_121 rfl (lv_at hl 3 rfl) ?_
        refine lv_bipush (v := 36) hx hb dX4_gates_122 (by decide) ?_
        refine lv_bipush (v := 37) hx hb dX4_gates_124 (by decide) ?_
        refine lv_iconst (v := 4) hx hb dX4_gates_126 (by decide) ?_
        refine lv_iload hx hb dX4_gates_127 (lv_at hl 0 rfl) ?_
        obtain ⟨hs59, hF⟩ := hF
        refine kcV (ci := 4) (q0 := 0) (As := [.int 36, .int 37, .int 4, .int v36]) (rest := []) E.1 (cx4_drops E am sv rf ln hs g35 36 37 4 v36 hs59) hX (cwV 4 hts gX4_gates_X4_drops rfl rfl rfl hdX4_drops ⟨Nat.le_of_ble_eq_true rfl, Nat.le_of_ble_eq_true rfl⟩) hKs hK hP hD hS hA _ _ (kw_self _) (kw_self _).symm rfl rfl rfl rfl hl.1 (Nat.le_of_ble_eq_true rfl) dX4_gates_129 ⟨Nat.zero_le _, Nat.zero_le _⟩ (fun H locs hP hD hS => ?_)
        have hP : va_P D vwCl (mnW cI am sv rf ln hs (fx4_drops g35 36 37 4 v36)) H := hP
        have hD : va_D A (mnW cI am sv rf ln hs (fx4_drops g35 36 37 4 v36)) := hD
        generalize eg46 : fx4_drops g35 36 37 4 v36 = g46 at hR hF hP hD
        replace hR := bnd_e hR
        replace hF := bnd_p hF
        refine lv_aload_n hx hb dX4_gates_132 rfl (lv_at hl 3 rfl) ?_
        refine va_get (D := D) (ci := 4) (v := .ref (am 1)) (C := RX4) (T := TX4) (N := 8) hx hb hts hinX4 hown hK hP 0 rfl rfl 0 (by decide) q1 (fun _ h9 => h9) rfl dX4_gates_133 ?_
        refine lv_bipush (v := 35) hx hb dX4_gates_136 (by decide) ?_
        refine lv_dup2_11 hx hb dX4_gates_138 rfl rfl ?_
        refine va_iald hx hb hK hP 1 0 rfl rfl (kin_lit (j := 35) (n := 1203) (by decide) (by decide)) dX4_gates_139 ?_
        refine kw_top (v := .int (g46 35)) rfl ?_
        refine lv_iconst (v := 1) hx hb dX4_gates_140 (by decide) ?_
        refine lv_iadd hx hb dX4_gates_141 ?_
        refine va_iast hx hb hK hP hD hS 1 0 rfl rfl (kin_lit (j := 35) (n := 1203) (by decide) (by decide)) dX4_gates_142 (fun H locs hP hD hS => ?_)
        have hP : va_P D vwCl (mnW cI am sv rf ln hs (upd g46 35 ((g46 35) + 1))) H := hP
        have hD : va_D A (mnW cI am sv rf ln hs (upd g46 35 ((g46 35) + 1))) := hD
        generalize eg47 : upd g46 35 ((g46 35) + 1) = g47 at hR hP hD hF
        replace hR := bnd_e hR
        replace hF := bnd_p hF
        refine lv_aload_n hx hb dX4_gates_143 rfl (lv_at hl 3 rfl) ?_
        refine va_get (D := D) (ci := 4) (v := .ref (am 1)) (C := RX4) (T := TX4) (N := 8) hx hb hts hinX4 hown hK hP 0 rfl rfl 0 (by decide) q1 (fun _ h9 => h9) rfl dX4_gates_144 ?_
        refine lv_sipush (v := 960) hx hb dX4_gates_147 (by decide) ?_
        refine lv_aload_n hx hb dX4_gates_150 rfl (lv_at hl 3 rfl) ?_
        refine va_get (D := D) (ci := 4) (v := .ref (am 1)) (C := RX4) (T := TX4) (N := 8) hx hb hts hinX4 hown hK hP 0 rfl rfl 0 (by decide) q1 (fun _ h9 => h9) rfl dX4_gates_151 ?_
        refine lv_sipush (v := 959) hx hb dX4_gates_154 (by decide) ?_
        refine va_iald hx hb hK hP 1 0 rfl rfl (kin_lit (j := 959) (n := 1203) (by decide) (by decide)) dX4_gates_157 ?_
        refine kw_top (v := .int (g47 959)) rfl ?_
        refine lv_iadd hx hb dX4_gates_158 ?_
        refine lv_aload_n hx hb dX4_gates_159 rfl (lv_at hl 3 rfl) ?_
        refine va_get (D := D) (ci := 4) (v := .ref (am 1)) (C := RX4) (T := TX4) (N := 8) hx hb hts hinX4 hown hK hP 0 rfl rfl 0 (by decide) q1 (fun _ h9 => h9) rfl dX4_gates_160 ?_
        refine lv_bipush (v := 14) hx hb dX4_gates_163 (by decide) ?_
        refine va_iald hx hb hK hP 1 0 rfl rfl (kin_lit (j := 14) (n := 1203) (by decide) (by decide)) dX4_gates_165 ?_
        refine kw_top (v := .int (g47 14)) rfl ?_
        refine lv_aload_n hx hb dX4_gates_166 rfl (lv_at hl 3 rfl) ?_
        refine va_get (D := D) (ci := 4) (v := .ref (am 1)) (C := RX4) (T := TX4) (N := 8) hx hb hts hinX4 hown hK hP 0 rfl rfl 0 (by decide) q1 (fun _ h9 => h9) rfl dX4_gates_167 ?_
        refine lv_iconst (v := 2) hx hb dX4_gates_170 (by decide) ?_
        refine va_iald hx hb hK hP 1 0 rfl rfl (kin_lit (j := 2) (n := 1203) (by decide) (by decide)) dX4_gates_171 ?_
        refine kw_top (v := .int (g47 2)) rfl ?_
        refine lv_iadd hx hb dX4_gates_172 ?_
        obtain ⟨hi48, hF⟩ := hF
        refine va_iast hx hb hK hP hD hS 1 0 rfl rfl hi48 dX4_gates_173 (fun H locs hP hD hS => ?_)
        have hP : va_P D vwCl (mnW cI am sv rf ln hs (upd g47 (960 + (g47 959)).toNatClampNeg ((g47 14) + (g47 2)))) H := hP
        have hD : va_D A (mnW cI am sv rf ln hs (upd g47 (960 + (g47 959)).toNatClampNeg ((g47 14) + (g47 2)))) := hD
        generalize eg49 : upd g47 (960 + (g47 959)).toNatClampNeg ((g47 14) + (g47 2)) = g49 at hR hP hD hF
        replace hR := bnd_e hR
        replace hF := bnd_p hF
        refine lv_aload_n hx hb dX4_gates_174 rfl (lv_at hl 3 rfl) ?_
        refine va_get (D := D) (ci := 4) (v := .ref (am 1)) (C := RX4) (T := TX4) (N := 8) hx hb hts hinX4 hown hK hP 0 rfl rfl 0 (by decide) q1 (fun _ h9 => h9) rfl dX4_gates_175 ?_
        refine lv_sipush (v := 959) hx hb dX4_gates_178 (by decide) ?_
        refine lv_dup2_11 hx hb dX4_gates_181 rfl rfl ?_
        refine va_iald hx hb hK hP 1 0 rfl rfl (kin_lit (j := 959) (n := 1203) (by decide) (by decide)) dX4_gates_182 ?_
        refine kw_top (v := .int (g49 959)) rfl ?_
        refine lv_iconst (v := 1) hx hb dX4_gates_183 (by decide) ?_
        refine lv_iadd hx hb dX4_gates_184 ?_
        refine va_iast hx hb hK hP hD hS 1 0 rfl rfl (kin_lit (j := 959) (n := 1203) (by decide) (by decide)) dX4_gates_185 (fun H locs hP hD hS => ?_)
        have hP : va_P D vwCl (mnW cI am sv rf ln hs (upd g49 959 ((g49 959) + 1))) H := hP
        have hD : va_D A (mnW cI am sv rf ln hs (upd g49 959 ((g49 959) + 1))) := hD
        generalize eg50 : upd g49 959 ((g49 959) + 1) = g50 at hR hP hD hF
        replace hR := bnd_e hR
        replace hF := bnd_p hF
        refine lv_aload_n hx hb dX4_gates_186 rfl (lv_at hl 3 rfl) ?_
        refine va_get (D := D) (ci := 4) (v := .ref (am 1)) (C := RX4) (T := TX4) (N := 8) hx hb hts hinX4 hown hK hP 0 rfl rfl 0 (by decide) q1 (fun _ h9 => h9) rfl dX4_gates_187 ?_
        refine lv_sipush (v := 1041) hx hb dX4_gates_190 (by decide) ?_
        refine lv_aload_n hx hb dX4_gates_193 rfl (lv_at hl 3 rfl) ?_
        refine va_get (D := D) (ci := 4) (v := .ref (am 1)) (C := RX4) (T := TX4) (N := 8) hx hb hts hinX4 hown hK hP 0 rfl rfl 0 (by decide) q1 (fun _ h9 => h9) rfl dX4_gates_194 ?_
        refine lv_sipush (v := 1040) hx hb dX4_gates_197 (by decide) ?_
        refine va_iald hx hb hK hP 1 0 rfl rfl (kin_lit (j := 1040) (n := 1203) (by decide) (by decide)) dX4_gates_200 ?_
        refine kw_top (v := .int (g50 1040)) rfl ?_
        refine lv_iadd hx hb dX4_gates_201 ?_
        refine lv_aload_n hx hb dX4_gates_202 rfl (lv_at hl 3 rfl) ?_
        refine va_get (D := D) (ci := 4) (v := .ref (am 1)) (C := RX4) (T := TX4) (N := 8) hx hb hts hinX4 hown hK hP 0 rfl rfl 0 (by decide) q1 (fun _ h9 => h9) rfl dX4_gates_203 ?_
        refine lv_bipush (v := 14) hx hb dX4_gates_206 (by decide) ?_
        refine va_iald hx hb hK hP 1 0 rfl rfl (kin_lit (j := 14) (n := 1203) (by decide) (by decide)) dX4_gates_208 ?_
        refine kw_top (v := .int (g50 14)) rfl ?_
        refine lv_aload_n hx hb dX4_gates_209 rfl (lv_at hl 3 rfl) ?_
        refine va_get (D := D) (ci := 4) (v := .ref (am 1)) (C := RX4) (T := TX4) (N := 8) hx hb hts hinX4 hown hK hP 0 rfl rfl 0 (by decide) q1 (fun _ h9 => h9) rfl dX4_gates_210 ?_
        refine lv_iconst (v := 3) hx hb dX4_gates_213 (by decide) ?_
        refine va_iald hx hb hK hP 1 0 rfl rfl (kin_lit (j := 3) (n := 1203) (by decide) (by decide)) dX4_gates_214 ?_
        refine kw_top (v := .int (g50 3)) rfl ?_
        refine lv_iadd hx hb dX4_gates_215 ?_
        obtain ⟨hi51, hF⟩ := hF
        refine va_iast hx hb hK hP hD hS 1 0 rfl rfl hi51 dX4_gates_216 (fun H locs hP hD hS => ?_)
        have hP : va_P D vwCl (mnW cI am sv rf ln hs (upd g50 (1041 + (g50 1040)).toNatClampNeg ((g50 14) + (g50 3)))) H := hP
        have hD : va_D A (mnW cI am sv rf ln hs (upd g50 (1041 + (g50 1040)).toNatClampNeg ((g50 14) + (g50 3)))) := hD
        generalize eg52 : upd g50 (1041 + (g50 1040)).toNatClampNeg ((g50 14) + (g50 3)) = g52 at hR hP hD hF
        replace hR := bnd_e hR
        replace hF := bnd_p hF
        refine lv_aload_n hx hb dX4_gates_217 rfl (lv_at hl 3 rfl) ?_
        refine va_get (D := D) (ci := 4) (v := .ref (am 1)) (C := RX4) (T := TX4) (N := 8) hx hb hts hinX4 hown hK hP 0 rfl rfl 0 (by decide) q1 (fun _ h9 => h9) rfl dX4_gates_218 ?_
        refine lv_sipush (v := 1040) hx hb dX4_gates_221 (by decide) ?_
        refine lv_dup2_11 hx hb dX4_gates_224 rfl rfl ?_
        refine va_iald hx hb hK hP 1 0 rfl rfl (kin_lit (j := 1040) (n := 1203) (by decide) (by decide)) dX4_gates_225 ?_
        refine kw_top (v := .int (g52 1040)) rfl ?_
        refine lv_iconst (v := 1) hx hb dX4_gates_226 (by decide) ?_
        refine lv_iadd hx hb dX4_gates_227 ?_
        refine va_iast hx hb hK hP hD hS 1 0 rfl rfl (kin_lit (j := 1040) (n := 1203) (by decide) (by decide)) dX4_gates_228 (fun H locs hP hD hS => ?_)
        have hP : va_P D vwCl (mnW cI am sv rf ln hs (upd g52 1040 ((g52 1040) + 1))) H := hP
        have hD : va_D A (mnW cI am sv rf ln hs (upd g52 1040 ((g52 1040) + 1))) := hD
        generalize eg53 : upd g52 1040 ((g52 1040) + 1) = g53 at hR hP hD hF
        replace hR := bnd_e hR
        replace hF := bnd_p hF
        refine lv_aload_n hx hb dX4_gates_229 rfl (lv_at hl 3 rfl) ?_
        refine va_get (D := D) (ci := 4) (v := .ref (am 1)) (C := RX4) (T := TX4) (N := 8) hx hb hts hinX4 hown hK hP 0 rfl rfl 0 (by decide) q1 (fun _ h9 => h9) rfl dX4_gates_230 ?_
        refine lv_bipush (v := 12) hx hb dX4_gates_233 (by decide) ?_
        refine lv_dup2_11 hx hb dX4_gates_235 rfl rfl ?_
        refine va_iald hx hb hK hP 1 0 rfl rfl (kin_lit (j := 12) (n := 1203) (by decide) (by decide)) dX4_gates_236 ?_
        refine kw_top (v := .int (g53 12)) rfl ?_
        refine lv_iconst (v := 1) hx hb dX4_gates_237 (by decide) ?_
        refine lv_iadd hx hb dX4_gates_238 ?_
        refine va_iast hx hb hK hP hD hS 1 0 rfl rfl (kin_lit (j := 12) (n := 1203) (by decide) (by decide)) dX4_gates_239 (fun H locs hP hD hS => ?_)
        have hP : va_P D vwCl (mnW cI am sv rf ln hs (upd g53 12 ((g53 12) + 1))) H := hP
        have hD : va_D A (mnW cI am sv rf ln hs (upd g53 12 ((g53 12) + 1))) := hD
        generalize eg54 : upd g53 12 ((g53 12) + 1) = g54 at hR hP hD hF
        replace hR := bnd_e hR
        replace hF := bnd_p hF
        refine lv_aload_n hx hb dX4_gates_240 rfl (lv_at hl 3 rfl) ?_
        refine va_get (D := D) (ci := 4) (v := .ref (am 1)) (C := RX4) (T := TX4) (N := 8) hx hb hts hinX4 hown hK hP 0 rfl rfl 0 (by decide) q1 (fun _ h9 => h9) rfl dX4_gates_241 ?_
        refine lv_bipush (v := 12) hx hb dX4_gates_244 (by decide) ?_
        refine va_iald hx hb hK hP 1 0 rfl rfl (kin_lit (j := 12) (n := 1203) (by decide) (by decide)) dX4_gates_246 ?_
        refine kw_top (v := .int (g54 12)) rfl ?_
        refine lv_aload_n hx hb dX4_gates_247 rfl (lv_at hl 3 rfl) ?_
        refine va_get (D := D) (ci := 4) (v := .ref (am 1)) (C := RX4) (T := TX4) (N := 8) hx hb hts hinX4 hown hK hP 0 rfl rfl 0 (by decide) q1 (fun _ h9 => h9) rfl dX4_gates_248 ?_
        refine lv_iconst (v := 4) hx hb dX4_gates_251 (by decide) ?_
        refine va_iald hx hb hK hP 1 0 rfl rfl (kin_lit (j := 4) (n := 1203) (by decide) (by decide)) dX4_gates_252 ?_
        refine kw_top (v := .int (g54 4)) rfl ?_
        refine lv_icmp_lt (tgt := 269) hx hb dX4_gates_253 (by decide) (fun c55 => ?_) (fun c55 => ?_)
        · rw [if_pos c55] at hR hF
          refine lv_iconst (v := 0) hx hb dX4_gates_269 (by decide) ?_
          subst hR
          exact krZ hx hb hr hlk hP hD hS dX4_gates_270 (by decide) rfl rfl
        · rw [if_neg c55] at hR hF
          refine lv_aload_n hx hb dX4_gates_256 rfl (lv_at hl 3 rfl) ?_
          refine va_get (D := D) (ci := 4) (v := .ref (am 1)) (C := RX4) (T := TX4) (N := 8) hx hb hts hinX4 hown hK hP 0 rfl rfl 0 (by decide) q1 (fun _ h9 => h9) rfl dX4_gates_257 ?_
          refine lv_bipush (v := 12) hx hb dX4_gates_260 (by decide) ?_
          refine lv_iconst (v := 0) hx hb dX4_gates_262 (by decide) ?_
          refine va_iast hx hb hK hP hD hS 1 0 rfl rfl (kin_lit (j := 12) (n := 1203) (by decide) (by decide)) dX4_gates_263 (fun H locs hP hD hS => ?_)
          have hP : va_P D vwCl (mnW cI am sv rf ln hs (upd g54 12 0)) H := hP
          have hD : va_D A (mnW cI am sv rf ln hs (upd g54 12 0)) := hD
          generalize eg56 : upd g54 12 0 = g56 at hR hP hD hF
          replace hR := bnd_e hR
          replace hF := bnd_p hF
          refine lv_aload_n hx hb dX4_gates_264 rfl (lv_at hl 3 rfl) ?_
          refine lv_iconst (v := 1) hx hb dX4_gates_265 (by decide) ?_
          have hs58 := hF
          refine kcV (ci := 4) (q0 := 0) (As := [.int 1]) (rest := []) E.1 (cx4_alarms E am sv rf ln hs g56 1 hs58) hX (cwV 1 hts gX4_gates_X4_alarms rfl rfl rfl hdX4_alarms ⟨Nat.le_of_ble_eq_true rfl, Nat.le_of_ble_eq_true rfl⟩) hKs hK hP hD hS hA _ _ (kw_self _) (kw_self _).symm rfl rfl rfl rfl hl.1 (Nat.le_of_ble_eq_true rfl) dX4_gates_266 ⟨Nat.zero_le _, Nat.zero_le _⟩ (fun H locs hP hD hS => ?_)
          have hP : va_P D vwCl (mnW cI am sv rf ln hs (fx4_alarms g56 1)) H := hP
          have hD : va_D A (mnW cI am sv rf ln hs (fx4_alarms g56 1)) := hD
          generalize eg57 : fx4_alarms g56 1 = g57 at hR hP hD
          replace hR := bnd_e hR
          refine lv_iconst (v := 0) hx hb dX4_gates_269 (by decide) ?_
          subst hR
          exact krZ hx hb hr hlk hP hD hS dX4_gates_270 (by decide) rfl rfl
    · rw [if_pos c4] at hR hF
      refine lv_iload_n hx hb dX4_gates_36 rfl (lv_at hl 0 rfl) ?_
      refine lv_if_ne (tgt := 61) hx hb dX4_gates_37 (by decide) (fun _ => ?_) (fun c => absurd c (by decide))
      refine lv_aload_n hx hb dX4_gates_61 rfl (lv_at hl 2 rfl) ?_
      refine lv_iload_n hx hb dX4_gates_62 rfl (lv_at hl 0 rfl) ?_
      refine lv_if_eq (tgt := 71) hx hb dX4_gates_63 (by decide) (fun c => absurd c (by decide)) (fun _ => ?_)
      refine lv_bipush (v := 10) hx hb dX4_gates_66 (by decide) ?_
      refine lv_goto (tgt := 93) hx hb dX4_gates_68 (by decide) ?_
      obtain ⟨hs33, hF⟩ := hF
      refine kcV (ci := 4) (q0 := 0) (As := [.int 10]) (rest := []) E.1 (cx4_counts E am sv rf ln hs g 10 hs33) hX (cwV 1 hts gX4_gates_X4_counts rfl rfl rfl hdX4_counts ⟨Nat.le_of_ble_eq_true rfl, Nat.le_of_ble_eq_true rfl⟩) hKs hK hP hD hS hA _ _ (kw_self _) (kw_self _).symm rfl rfl rfl rfl hl.1 (Nat.le_of_ble_eq_true rfl) dX4_gates_93 ⟨Nat.zero_le _, Nat.zero_le _⟩ (fun H locs hP hD hS => ?_)
      have hP : va_P D vwCl (mnW cI am sv rf ln hs (fx4_counts g 10)) H := hP
      have hD : va_D A (mnW cI am sv rf ln hs (fx4_counts g 10)) := hD
      generalize eg5 : fx4_counts g 10 = g5 at hR hF hP hD
      replace hR := bnd_e hR
      replace hF := bnd_p hF
      refine lv_aload_n hx hb dX4_gates_96 rfl (lv_at hl 2 rfl) ?_
      refine lv_iload_n hx hb dX4_gates_97 rfl (lv_at hl 3 rfl) ?_
      refine lv_iconst (v := 2) hx hb dX4_gates_98 (by decide) ?_
      obtain ⟨hs32, hF⟩ := hF
      refine kcV (ci := 4) (q0 := 0) (As := [.int x1, .int 2]) (rest := []) E.1 (cx4_leaves E am sv rf ln hs g5 x1 2 hs32) hX (cwV 2 hts gX4_gates_X4_leaves rfl rfl rfl hdX4_leaves ⟨Nat.le_of_ble_eq_true rfl, Nat.le_of_ble_eq_true rfl⟩) hKs hK hP hD hS hA _ _ (kw_self _) (kw_self _).symm rfl rfl rfl rfl hl.1 (Nat.le_of_ble_eq_true rfl) dX4_gates_99 ⟨Nat.zero_le _, Nat.zero_le _⟩ (fun H locs hP hD hS => ?_)
      have hP : va_P D vwCl (mnW cI am sv rf ln hs (fx4_leaves g5 x1 2)) H := hP
      have hD : va_D A (mnW cI am sv rf ln hs (fx4_leaves g5 x1 2)) := hD
      generalize eg6 : fx4_leaves g5 x1 2 = g6 at hR hF hP hD
      replace hR := bnd_e hR
      replace hF := bnd_p hF
      refine lv_aload_n hx hb dX4_gates_102 rfl (lv_at hl 2 rfl) ?_
      refine lv_aload_n hx hb dX4_gates_103 rfl (lv_at hl 2 rfl) ?_
      refine va_get (D := D) (ci := 4) (v := .ref (am 1)) (C := RX4) (T := TX4) (N := 8) hx hb hts hinX4 hown hK hP 0 rfl rfl 0 (by decide) q1 (fun _ h9 => h9) rfl dX4_gates_104 ?_
      refine lv_bipush (v := 10) hx hb dX4_gates_107 (by decide) ?_
      refine va_iald hx hb hK hP 1 0 rfl rfl (kin_lit (j := 10) (n := 1203) (by decide) (by decide)) dX4_gates_109 ?_
      refine kw_top (v := .int (g6 10)) rfl ?_
      obtain ⟨hs31, hF⟩ := hF
      refine kcI (ci := 4) (q0 := 0) (As := [.int (g6 10)]) (rest := []) E.1 (cx4_itemAt E am sv rf ln hs g6 (g6 10) hs31) hX (cwV 1 hts gX4_gates_X4_itemAt rfl rfl rfl hdX4_itemAt ⟨Nat.le_of_ble_eq_true rfl, Nat.le_of_ble_eq_true rfl⟩) hKs hK hP hD hS hA _ _ (kw_self _) (kw_self _).symm rfl rfl rfl rfl hl.1 (Nat.le_of_ble_eq_true rfl) dX4_gates_110 ⟨Nat.zero_le _, Nat.zero_le _⟩ (fun H locs hP hD hS => ?_)
      generalize ev7 : fx4_itemAt g6 (g6 10) = v7 at hR hF ⊢
      replace hR := bnd_e hR
      replace hF := bnd_p hF
      refine lv_istore (lv' := [(4, .int v7), (3, .int 1), (2, .int (g (fx4_entry x1 2).toNatClampNeg)), (0, .ref (am 0)), (1, .int x1)]) hx hb dX4_gates_113 hl (by decide) rfl (fun ls hl => ?_)
      refine lv_iload hx hb dX4_gates_115 (lv_at hl 0 rfl) ?_
      refine lv_iconst (v := (-1)) hx hb dX4_gates_117 (by decide) ?_
      refine lv_icmp_eq (tgt := 186) hx hb dX4_gates_118 (by decide) (fun c8 => ?_) (fun c8 => ?_)
      · rw [if_pos c8] at hR hF
        refine lv_aload_n hx hb dX4_gates_186 rfl (lv_at hl 3 rfl) ?_
        refine va_get (D := D) (ci := 4) (v := .ref (am 1)) (C := RX4) (T := TX4) (N := 8) hx hb hts hinX4 hown hK hP 0 rfl rfl 0 (by decide) q1 (fun _ h9 => h9) rfl dX4_gates_187 ?_
        refine lv_sipush (v := 1041) hx hb dX4_gates_190 (by decide) ?_
        refine lv_aload_n hx hb dX4_gates_193 rfl (lv_at hl 3 rfl) ?_
        refine va_get (D := D) (ci := 4) (v := .ref (am 1)) (C := RX4) (T := TX4) (N := 8) hx hb hts hinX4 hown hK hP 0 rfl rfl 0 (by decide) q1 (fun _ h9 => h9) rfl dX4_gates_194 ?_
        refine lv_sipush (v := 1040) hx hb dX4_gates_197 (by decide) ?_
        refine va_iald hx hb hK hP 1 0 rfl rfl (kin_lit (j := 1040) (n := 1203) (by decide) (by decide)) dX4_gates_200 ?_
        refine kw_top (v := .int (g6 1040)) rfl ?_
        refine lv_iadd hx hb dX4_gates_201 ?_
        refine lv_aload_n hx hb dX4_gates_202 rfl (lv_at hl 3 rfl) ?_
        refine va_get (D := D) (ci := 4) (v := .ref (am 1)) (C := RX4) (T := TX4) (N := 8) hx hb hts hinX4 hown hK hP 0 rfl rfl 0 (by decide) q1 (fun _ h9 => h9) rfl dX4_gates_203 ?_
        refine lv_bipush (v := 14) hx hb dX4_gates_206 (by decide) ?_
        refine va_iald hx hb hK hP 1 0 rfl rfl (kin_lit (j := 14) (n := 1203) (by decide) (by decide)) dX4_gates_208 ?_
        refine kw_top (v := .int (g6 14)) rfl ?_
        refine lv_aload_n hx hb dX4_gates_209 rfl (lv_at hl 3 rfl) ?_
        refine va_get (D := D) (ci := 4) (v := .ref (am 1)) (C := RX4) (T := TX4) (N := 8) hx hb hts hinX4 hown hK hP 0 rfl rfl 0 (by decide) q1 (fun _ h9 => h9) rfl dX4_gates_210 ?_
        refine lv_iconst (v := 3) hx hb dX4_gates_213 (by decide) ?_
        refine va_iald hx hb hK hP 1 0 rfl rfl (kin_lit (j := 3) (n := 1203) (by decide) (by decide)) dX4_gates_214 ?_
        refine kw_top (v := .int (g6 3)) rfl ?_
        refine lv_iadd hx hb dX4_gates_215 ?_
        obtain ⟨hi9, hF⟩ := hF
        refine va_iast hx hb hK hP hD hS 1 0 rfl rfl hi9 dX4_gates_216 (fun H locs hP hD hS => ?_)
        have hP : va_P D vwCl (mnW cI am sv rf ln hs (upd g6 (1041 + (g6 1040)).toNatClampNeg ((g6 14) + (g6 3)))) H := hP
        have hD : va_D A (mnW cI am sv rf ln hs (upd g6 (1041 + (g6 1040)).toNatClampNeg ((g6 14) + (g6 3)))) := hD
        generalize eg10 : upd g6 (1041 + (g6 1040)).toNatClampNeg ((g6 14) + (g6 3)) = g10 at hR hP hD hF
        replace hR := bnd_e hR
        replace hF := bnd_p hF
        refine lv_aload_n hx hb dX4_gates_217 rfl (lv_at hl 3 rfl) ?_
        refine va_get (D := D) (ci := 4) (v := .ref (am 1)) (C := RX4) (T := TX4) (N := 8) hx hb hts hinX4 hown hK hP 0 rfl rfl 0 (by decide) q1 (fun _ h9 => h9) rfl dX4_gates_218 ?_
        refine lv_sipush (v := 1040) hx hb dX4_gates_221 (by decide) ?_
        refine lv_dup2_11 hx hb dX4_gates_224 rfl rfl ?_
        refine va_iald hx hb hK hP 1 0 rfl rfl (kin_lit (j := 1040) (n := 1203) (by decide) (by decide)) dX4_gates_225 ?_
        refine kw_top (v := .int (g10 1040)) rfl ?_
        refine lv_iconst (v := 1) hx hb dX4_gates_226 (by decide) ?_
        refine lv_iadd hx hb dX4_gates_227 ?_
        refine va_iast hx hb hK hP hD hS 1 0 rfl rfl (kin_lit (j := 1040) (n := 1203) (by decide) (by decide)) dX4_gates_228 (fun H locs hP hD hS => ?_)
        have hP : va_P D vwCl (mnW cI am sv rf ln hs (upd g10 1040 ((g10 1040) + 1))) H := hP
        have hD : va_D A (mnW cI am sv rf ln hs (upd g10 1040 ((g10 1040) + 1))) := hD
        generalize eg11 : upd g10 1040 ((g10 1040) + 1) = g11 at hR hP hD hF
        replace hR := bnd_e hR
        replace hF := bnd_p hF
        refine lv_aload_n hx hb dX4_gates_229 rfl (lv_at hl 3 rfl) ?_
        refine va_get (D := D) (ci := 4) (v := .ref (am 1)) (C := RX4) (T := TX4) (N := 8) hx hb hts hinX4 hown hK hP 0 rfl rfl 0 (by decide) q1 (fun _ h9 => h9) rfl dX4_gates_230 ?_
        refine lv_bipush (v := 12) hx hb dX4_gates_233 (by decide) ?_
        refine lv_dup2_11 hx hb dX4_gates_235 rfl rfl ?_
        refine va_iald hx hb hK hP 1 0 rfl rfl (kin_lit (j := 12) (n := 1203) (by decide) (by decide)) dX4_gates_236 ?_
        refine kw_top (v := .int (g11 12)) rfl ?_
        refine lv_iconst (v := 1) hx hb dX4_gates_237 (by decide) ?_
        refine lv_iadd hx hb dX4_gates_238 ?_
        refine va_iast hx hb hK hP hD hS 1 0 rfl rfl (kin_lit (j := 12) (n := 1203) (by decide) (by decide)) dX4_gates_239 (fun H locs hP hD hS => ?_)
        have hP : va_P D vwCl (mnW cI am sv rf ln hs (upd g11 12 ((g11 12) + 1))) H := hP
        have hD : va_D A (mnW cI am sv rf ln hs (upd g11 12 ((g11 12) + 1))) := hD
        generalize eg12 : upd g11 12 ((g11 12) + 1) = g12 at hR hP hD hF
        replace hR := bnd_e hR
        replace hF := bnd_p hF
        refine lv_aload_n hx hb dX4_gates_240 rfl (lv_at hl 3 rfl) ?_
        refine va_get (D := D) (ci := 4) (v := .ref (am 1)) (C := RX4) (T := TX4) (N := 8) hx hb hts hinX4 hown hK hP 0 rfl rfl 0 (by decide) q1 (fun _ h9 => h9) rfl dX4_gates_241 ?_
        refine lv_bipush (v := 12) hx hb dX4_gates_244 (by decide) ?_
        refine va_iald hx hb hK hP 1 0 rfl rfl (kin_lit (j := 12) (n := 1203) (by decide) (by decide)) dX4_gates_246 ?_
        refine kw_top (v := .int (g12 12)) rfl ?_
        refine lv_aload_n hx hb dX4_gates_247 rfl (lv_at hl 3 rfl) ?_
        refine va_get (D := D) (ci := 4) (v := .ref (am 1)) (C := RX4) (T := TX4) (N := 8) hx hb hts hinX4 hown hK hP 0 rfl rfl 0 (by decide) q1 (fun _ h9 => h9) rfl dX4_gates_248 ?_
        refine lv_iconst (v := 4) hx hb dX4_gates_251 (by decide) ?_
        refine va_iald hx hb hK hP 1 0 rfl rfl (kin_lit (j := 4) (n := 1203) (by decide) (by decide)) dX4_gates_252 ?_
        refine kw_top (v := .int (g12 4)) rfl ?_
        refine lv_icmp_lt (tgt := 269) hx hb dX4_gates_253 (by decide) (fun c13 => ?_) (fun c13 => ?_)
        · rw [if_pos c13] at hR hF
          refine lv_iconst (v := 0) hx hb dX4_gates_269 (by decide) ?_
          subst hR
          exact krZ hx hb hr hlk hP hD hS dX4_gates_270 (by decide) rfl rfl
        · rw [if_neg c13] at hR hF
          refine lv_aload_n hx hb dX4_gates_256 rfl (lv_at hl 3 rfl) ?_
          refine va_get (D := D) (ci := 4) (v := .ref (am 1)) (C := RX4) (T := TX4) (N := 8) hx hb hts hinX4 hown hK hP 0 rfl rfl 0 (by decide) q1 (fun _ h9 => h9) rfl dX4_gates_257 ?_
          refine lv_bipush (v := 12) hx hb dX4_gates_260 (by decide) ?_
          refine lv_iconst (v := 0) hx hb dX4_gates_262 (by decide) ?_
          refine va_iast hx hb hK hP hD hS 1 0 rfl rfl (kin_lit (j := 12) (n := 1203) (by decide) (by decide)) dX4_gates_263 (fun H locs hP hD hS => ?_)
          have hP : va_P D vwCl (mnW cI am sv rf ln hs (upd g12 12 0)) H := hP
          have hD : va_D A (mnW cI am sv rf ln hs (upd g12 12 0)) := hD
          generalize eg14 : upd g12 12 0 = g14 at hR hP hD hF
          replace hR := bnd_e hR
          replace hF := bnd_p hF
          refine lv_aload_n hx hb dX4_gates_264 rfl (lv_at hl 3 rfl) ?_
          refine lv_iconst (v := 1) hx hb dX4_gates_265 (by decide) ?_
          have hs16 := hF
          refine kcV (ci := 4) (q0 := 0) (As := [.int 1]) (rest := []) E.1 (cx4_alarms E am sv rf ln hs g14 1 hs16) hX (cwV 1 hts gX4_gates_X4_alarms rfl rfl rfl hdX4_alarms ⟨Nat.le_of_ble_eq_true rfl, Nat.le_of_ble_eq_true rfl⟩) hKs hK hP hD hS hA _ _ (kw_self _) (kw_self _).symm rfl rfl rfl rfl hl.1 (Nat.le_of_ble_eq_true rfl) dX4_gates_266 ⟨Nat.zero_le _, Nat.zero_le _⟩ (fun H locs hP hD hS => ?_)
          have hP : va_P D vwCl (mnW cI am sv rf ln hs (fx4_alarms g14 1)) H := hP
          have hD : va_D A (mnW cI am sv rf ln hs (fx4_alarms g14 1)) := hD
          generalize eg15 : fx4_alarms g14 1 = g15 at hR hP hD
          replace hR := bnd_e hR
          refine lv_iconst (v := 0) hx hb dX4_gates_269 (by decide) ?_
          subst hR
          exact krZ hx hb hr hlk hP hD hS dX4_gates_270 (by decide) rfl rfl
      · rw [if_neg c8] at hR hF
        refine lv_aload_n hx hb dX4_gates_121 rfl (lv_at hl 3 rfl) ?_
        refine lv_bipush (v := 36) hx hb dX4_gates_122 (by decide) ?_
        refine lv_bipush (v := 37) hx hb dX4_gates_124 (by decide) ?_
        refine lv_iconst (v := 4) hx hb dX4_gates_126 (by decide) ?_
        refine lv_iload hx hb dX4_gates_127 (lv_at hl 0 rfl) ?_
        obtain ⟨hs30, hF⟩ := hF
        refine kcV (ci := 4) (q0 := 0) (As := [.int 36, .int 37, .int 4, .int v7]) (rest := []) E.1 (cx4_drops E am sv rf ln hs g6 36 37 4 v7 hs30) hX (cwV 4 hts gX4_gates_X4_drops rfl rfl rfl hdX4_drops ⟨Nat.le_of_ble_eq_true rfl, Nat.le_of_ble_eq_true rfl⟩) hKs hK hP hD hS hA _ _ (kw_self _) (kw_self _).symm rfl rfl rfl rfl hl.1 (Nat.le_of_ble_eq_true rfl) dX4_gates_129 ⟨Nat.zero_le _, Nat.zero_le _⟩ (fun H locs hP hD hS => ?_)
        have hP : va_P D vwCl (mnW cI am sv rf ln hs (fx4_drops g6 36 37 4 v7)) H := hP
        have hD : va_D A (mnW cI am sv rf ln hs (fx4_drops g6 36 37 4 v7)) := hD
        generalize eg17 : fx4_drops g6 36 37 4 v7 = g17 at hR hF hP hD
        replace hR := bnd_e hR
        replace hF := bnd_p hF
        refine lv_aload_n hx hb dX4_gates_132 rfl (lv_at hl 3 rfl) ?_
        refine va_get (D := D) (ci := 4) (v := .ref (am 1)) (C := RX4) (T := TX4) (N := 8) hx hb hts hinX4 hown hK hP 0 rfl rfl 0 (by decide) q1 (fun _ h9 => h9) rfl dX4_gates_133 ?_
        refine lv_bipush (v := 35) hx hb dX4_gates_136 (by decide) ?_
        refine lv_dup2_11 hx hb dX4_gates_138 rfl rfl ?_
        refine va_iald hx hb hK hP 1 0 rfl rfl (kin_lit (j := 35) (n := 1203) (by decide) (by decide)) dX4_gates_139 ?_
        refine kw_top (v := .int (g17 35)) rfl ?_
        refine lv_iconst (v := 1) hx hb dX4_gates_140 (by decide) ?_
        refine lv_iadd hx hb dX4_gates_141 ?_
        refine va_iast hx hb hK hP hD hS 1 0 rfl rfl (kin_lit (j := 35) (n := 1203) (by decide) (by decide)) dX4_gates_142 (fun H locs hP hD hS => ?_)
        have hP : va_P D vwCl (mnW cI am sv rf ln hs (upd g17 35 ((g17 35) + 1))) H := hP
        have hD : va_D A (mnW cI am sv rf ln hs (upd g17 35 ((g17 35) + 1))) := hD
        generalize eg18 : upd g17 35 ((g17 35) + 1) = g18 at hR hP hD hF
        replace hR := bnd_e hR
        replace hF := bnd_p hF
        refine lv_aload_n hx hb dX4_gates_143 rfl (lv_at hl 3 rfl) ?_
        refine va_get (D := D) (ci := 4) (v := .ref (am 1)) (C := RX4) (T := TX4) (N := 8) hx hb hts hinX4 hown hK hP 0 rfl rfl 0 (by decide) q1 (fun _ h9 => h9) rfl dX4_gates_144 ?_
        refine lv_sipush (v := 960) hx hb dX4_gates_147 (by decide) ?_
        refine lv_aload_n hx hb dX4_gates_150 rfl (lv_at hl 3 rfl) ?_
        refine va_get (D := D) (ci := 4) (v := .ref (am 1)) (C := RX4) (T := TX4) (N := 8) hx hb hts hinX4 hown hK hP 0 rfl rfl 0 (by decide) q1 (fun _ h9 => h9) rfl dX4_gates_151 ?_
        refine lv_sipush (v := 959) hx hb dX4_gates_154 (by decide) ?_
        refine va_iald hx hb hK hP 1 0 rfl rfl (kin_lit (j := 959) (n := 1203) (by decide) (by decide)) dX4_gates_157 ?_
        refine kw_top (v := .int (g18 959)) rfl ?_
        refine lv_iadd hx hb dX4_gates_158 ?_
        refine lv_aload_n hx hb dX4_gates_159 rfl (lv_at hl 3 rfl) ?_
        refine va_get (D := D) (ci := 4) (v := .ref (am 1)) (C := RX4) (T := TX4) (N := 8) hx hb hts hinX4 hown hK hP 0 rfl rfl 0 (by decide) q1 (fun _ h9 => h9) rfl dX4_gates_160 ?_
        refine lv_bipush (v := 14) hx hb dX4_gates_163 (by decide) ?_
        refine va_iald hx hb hK hP 1 0 rfl rfl (kin_lit (j := 14) (n := 1203) (by decide) (by decide)) dX4_gates_165 ?_
        refine kw_top (v := .int (g18 14)) rfl ?_
        refine lv_aload_n hx hb dX4_gates_166 rfl (lv_at hl 3 rfl) ?_
        refine va_get (D := D) (ci := 4) (v := .ref (am 1)) (C := RX4) (T := TX4) (N := 8) hx hb hts hinX4 hown hK hP 0 rfl rfl 0 (by decide) q1 (fun _ h9 => h9) rfl dX4_gates_167 ?_
        refine lv_iconst (v := 2) hx hb dX4_gates_170 (by decide) ?_
        refine va_iald hx hb hK hP 1 0 rfl rfl (kin_lit (j := 2) (n := 1203) (by decide) (by decide)) dX4_gates_171 ?_
        refine kw_top (v := .int (g18 2)) rfl ?_
        refine lv_iadd hx hb dX4_gates_172 ?_
        obtain ⟨hi19, hF⟩ := hF
        refine va_iast hx hb hK hP hD hS 1 0 rfl rfl hi19 dX4_gates_173 (fun H locs hP hD hS => ?_)
        have hP : va_P D vwCl (mnW cI am sv rf ln hs (upd g18 (960 + (g18 959)).toNatClampNeg ((g18 14) + (g18 2)))) H := hP
        have hD : va_D A (mnW cI am sv rf ln hs (upd g18 (960 + (g18 959)).toNatClampNeg ((g18 14) + (g18 2)))) := hD
        generalize eg20 : upd g18 (960 + (g18 959)).toNatClampNeg ((g18 14) + (g18 2)) = g20 at hR hP hD hF
        replace hR := bnd_e hR
        replace hF := bnd_p hF
        refine lv_aload_n hx hb dX4_gates_174 rfl (lv_at hl 3 rfl) ?_
        refine va_get (D := D) (ci := 4) (v := .ref (am 1)) (C := RX4) (T := TX4) (N := 8) hx hb hts hinX4 hown hK hP 0 rfl rfl 0 (by decide) q1 (fun _ h9 => h9) rfl dX4_gates_175 ?_
        refine lv_sipush (v := 959) hx hb dX4_gates_178 (by decide) ?_
        refine lv_dup2_11 hx hb dX4_gates_181 rfl rfl ?_
        refine va_iald hx hb hK hP 1 0 rfl rfl (kin_lit (j := 959) (n := 1203) (by decide) (by decide)) dX4_gates_182 ?_
        refine kw_top (v := .int (g20 959)) rfl ?_
        refine lv_iconst (v := 1) hx hb dX4_gates_183 (by decide) ?_
        refine lv_iadd hx hb dX4_gates_184 ?_
        refine va_iast hx hb hK hP hD hS 1 0 rfl rfl (kin_lit (j := 959) (n := 1203) (by decide) (by decide)) dX4_gates_185 (fun H locs hP hD hS => ?_)
        have hP : va_P D vwCl (mnW cI am sv rf ln hs (upd g20 959 ((g20 959) + 1))) H := hP
        have hD : va_D A (mnW cI am sv rf ln hs (upd g20 959 ((g20 959) + 1))) := hD
        generalize eg21 : upd g20 959 ((g20 959) + 1) = g21 at hR hP hD hF
        replace hR := bnd_e hR
        replace hF := bnd_p hF
        refine lv_aload_n hx hb dX4_gates_186 rfl (lv_at hl 3 rfl) ?_
        refine va_get (D := D) (ci := 4) (v := .ref (am 1)) (C := RX4) (T := TX4) (N := 8) hx hb hts hinX4 hown hK hP 0 rfl rfl 0 (by decide) q1 (fun _ h9 => h9) rfl dX4_gates_187 ?_
        refine lv_sipush (v := 1041) hx hb dX4_gates_190 (by decide) ?_
        refine lv_aload_n hx hb dX4_gates_193 rfl (lv_at hl 3 rfl) ?_
        refine va_get (D := D) (ci := 4) (v := .ref (am 1)) (C := RX4) (T := TX4) (N := 8) hx hb hts hinX4 hown hK hP 0 rfl rfl 0 (by decide) q1 (fun _ h9 => h9) rfl dX4_gates_194 ?_
        refine lv_sipush (v := 1040) hx hb dX4_gates_197 (by decide) ?_
        refine va_iald hx hb hK hP 1 0 rfl rfl (kin_lit (j := 1040) (n := 1203) (by decide) (by decide)) dX4_gates_200 ?_
        refine kw_top (v := .int (g21 1040)) rfl ?_
        refine lv_iadd hx hb dX4_gates_201 ?_
        refine lv_aload_n hx hb dX4_gates_202 rfl (lv_at hl 3 rfl) ?_
        refine va_get (D := D) (ci := 4) (v := .ref (am 1)) (C := RX4) (T := TX4) (N := 8) hx hb hts hinX4 hown hK hP 0 rfl rfl 0 (by decide) q1 (fun _ h9 => h9) rfl dX4_gates_203 ?_
        refine lv_bipush (v := 14) hx hb dX4_gates_206 (by decide) ?_
        refine va_iald hx hb hK hP 1 0 rfl rfl (kin_lit (j := 14) (n := 1203) (by decide) (by decide)) dX4_gates_208 ?_
        refine kw_top (v := .int (g21 14)) rfl ?_
        refine lv_aload_n hx hb dX4_gates_209 rfl (lv_at hl 3 rfl) ?_
        refine va_get (D := D) (ci := 4) (v := .ref (am 1)) (C := RX4) (T := TX4) (N := 8) hx hb hts hinX4 hown hK hP 0 rfl rfl 0 (by decide) q1 (fun _ h9 => h9) rfl dX4_gates_210 ?_
        refine lv_iconst (v := 3) hx hb dX4_gates_213 (by decide) ?_
        refine va_iald hx hb hK hP 1 0 rfl rfl (kin_lit (j := 3) (n := 1203) (by decide) (by decide)) dX4_gates_214 ?_
        refine kw_top (v := .int (g21 3)) rfl ?_
        refine lv_iadd hx hb dX4_gates_215 ?_
        obtain ⟨hi22, hF⟩ := hF
        refine va_iast hx hb hK hP hD hS 1 0 rfl rfl hi22 dX4_gates_216 (fun H locs hP hD hS => ?_)
        have hP : va_P D vwCl (mnW cI am sv rf ln hs (upd g21 (1041 + (g21 1040)).toNatClampNeg ((g21 14) + (g21 3)))) H := hP
        have hD : va_D A (mnW cI am sv rf ln hs (upd g21 (1041 + (g21 1040)).toNatClampNeg ((g21 14) + (g21 3)))) := hD
        generalize eg23 : upd g21 (1041 + (g21 1040)).toNatClampNeg ((g21 14) + (g21 3)) = g23 at hR hP hD hF
        replace hR := bnd_e hR
        replace hF := bnd_p hF
        refine lv_aload_n hx hb dX4_gates_217 rfl (lv_at hl 3 rfl) ?_
        refine va_get (D := D) (ci := 4) (v := .ref (am 1)) (C := RX4) (T := TX4) (N := 8) hx hb hts hinX4 hown hK hP 0 rfl rfl 0 (by decide) q1 (fun _ h9 => h9) rfl dX4_gates_218 ?_
        refine lv_sipush (v := 1040) hx hb dX4_gates_221 (by decide) ?_
        refine lv_dup2_11 hx hb dX4_gates_224 rfl rfl ?_
        refine va_iald hx hb hK hP 1 0 rfl rfl (kin_lit (j := 1040) (n := 1203) (by decide) (by decide)) dX4_gates_225 ?_
        refine kw_top (v := .int (g23 1040)) rfl ?_
        refine lv_iconst (v := 1) hx hb dX4_gates_226 (by decide) ?_
        refine lv_iadd hx hb dX4_gates_227 ?_
        refine va_iast hx hb hK hP hD hS 1 0 rfl rfl (kin_lit (j := 1040) (n := 1203) (by decide) (by decide)) dX4_gates_228 (fun H locs hP hD hS => ?_)
        have hP : va_P D vwCl (mnW cI am sv rf ln hs (upd g23 1040 ((g23 1040) + 1))) H := hP
        have hD : va_D A (mnW cI am sv rf ln hs (upd g23 1040 ((g23 1040) + 1))) := hD
        generalize eg24 : upd g23 1040 ((g23 1040) + 1) = g24 at hR hP hD hF
        replace hR := bnd_e hR
        replace hF := bnd_p hF
        refine lv_aload_n hx hb dX4_gates_229 rfl (lv_at hl 3 rfl) ?_
        refine va_get (D := D) (ci := 4) (v := .ref (am 1)) (C := RX4) (T := TX4) (N := 8) hx hb hts hinX4 hown hK hP 0 rfl rfl 0 (by decide) q1 (fun _ h9 => h9) rfl dX4_gates_230 ?_
        refine lv_bipush (v := 12) hx hb dX4_gates_233 (by decide) ?_
        refine lv_dup2_11 hx hb dX4_gates_235 rfl rfl ?_
        refine va_iald hx hb hK hP 1 0 rfl rfl (kin_lit (j := 12) (n := 1203) (by decide) (by decide)) dX4_gates_236 ?_
        refine kw_top (v := .int (g24 12)) rfl ?_
        refine lv_iconst (v := 1) hx hb dX4_gates_237 (by decide) ?_
        refine lv_iadd hx hb dX4_gates_238 ?_
        refine va_iast hx hb hK hP hD hS 1 0 rfl rfl (kin_lit (j := 12) (n := 1203) (by decide) (by decide)) dX4_gates_239 (fun H locs hP hD hS => ?_)
        have hP : va_P D vwCl (mnW cI am sv rf ln hs (upd g24 12 ((g24 12) + 1))) H := hP
        have hD : va_D A (mnW cI am sv rf ln hs (upd g24 12 ((g24 12) + 1))) := hD
        generalize eg25 : upd g24 12 ((g24 12) + 1) = g25 at hR hP hD hF
        replace hR := bnd_e hR
        replace hF := bnd_p hF
        refine lv_aload_n hx hb dX4_gates_240 rfl (lv_at hl 3 rfl) ?_
        refine va_get (D := D) (ci := 4) (v := .ref (am 1)) (C := RX4) (T := TX4) (N := 8) hx hb hts hinX4 hown hK hP 0 rfl rfl 0 (by decide) q1 (fun _ h9 => h9) rfl dX4_gates_241 ?_
        refine lv_bipush (v := 12) hx hb dX4_gates_244 (by decide) ?_
        refine va_iald hx hb hK hP 1 0 rfl rfl (kin_lit (j := 12) (n := 1203) (by decide) (by decide)) dX4_gates_246 ?_
        refine kw_top (v := .int (g25 12)) rfl ?_
        refine lv_aload_n hx hb dX4_gates_247 rfl (lv_at hl 3 rfl) ?_
        refine va_get (D := D) (ci := 4) (v := .ref (am 1)) (C := RX4) (T := TX4) (N := 8) hx hb hts hinX4 hown hK hP 0 rfl rfl 0 (by decide) q1 (fun _ h9 => h9) rfl dX4_gates_248 ?_
        refine lv_iconst (v := 4) hx hb dX4_gates_251 (by decide) ?_
        refine va_iald hx hb hK hP 1 0 rfl rfl (kin_lit (j := 4) (n := 1203) (by decide) (by decide)) dX4_gates_252 ?_
        refine kw_top (v := .int (g25 4)) rfl ?_
        refine lv_icmp_lt (tgt := 269) hx hb dX4_gates_253 (by decide) (fun c26 => ?_) (fun c26 => ?_)
        · rw [if_pos c26] at hR hF
          refine lv_iconst (v := 0) hx hb dX4_gates_269 (by decide) ?_
          subst hR
          exact krZ hx hb hr hlk hP hD hS dX4_gates_270 (by decide) rfl rfl
        · rw [if_neg c26] at hR hF
          refine lv_aload_n hx hb dX4_gates_256 rfl (lv_at hl 3 rfl) ?_
          refine va_get (D := D) (ci := 4) (v := .ref (am 1)) (C := RX4) (T := TX4) (N := 8) hx hb hts hinX4 hown hK hP 0 rfl rfl 0 (by decide) q1 (fun _ h9 => h9) rfl dX4_gates_257 ?_
          refine lv_bipush (v := 12) hx hb dX4_gates_260 (by decide) ?_
          refine lv_iconst (v := 0) hx hb dX4_gates_262 (by decide) ?_
          refine va_iast hx hb hK hP hD hS 1 0 rfl rfl (kin_lit (j := 12) (n := 1203) (by decide) (by decide)) dX4_gates_263 (fun H locs hP hD hS => ?_)
          have hP : va_P D vwCl (mnW cI am sv rf ln hs (upd g25 12 0)) H := hP
          have hD : va_D A (mnW cI am sv rf ln hs (upd g25 12 0)) := hD
          generalize eg27 : upd g25 12 0 = g27 at hR hP hD hF
          replace hR := bnd_e hR
          replace hF := bnd_p hF
          refine lv_aload_n hx hb dX4_gates_264 rfl (lv_at hl 3 rfl) ?_
          refine lv_iconst (v := 1) hx hb dX4_gates_265 (by decide) ?_
          have hs29 := hF
          refine kcV (ci := 4) (q0 := 0) (As := [.int 1]) (rest := []) E.1 (cx4_alarms E am sv rf ln hs g27 1 hs29) hX (cwV 1 hts gX4_gates_X4_alarms rfl rfl rfl hdX4_alarms ⟨Nat.le_of_ble_eq_true rfl, Nat.le_of_ble_eq_true rfl⟩) hKs hK hP hD hS hA _ _ (kw_self _) (kw_self _).symm rfl rfl rfl rfl hl.1 (Nat.le_of_ble_eq_true rfl) dX4_gates_266 ⟨Nat.zero_le _, Nat.zero_le _⟩ (fun H locs hP hD hS => ?_)
          have hP : va_P D vwCl (mnW cI am sv rf ln hs (fx4_alarms g27 1)) H := hP
          have hD : va_D A (mnW cI am sv rf ln hs (fx4_alarms g27 1)) := hD
          generalize eg28 : fx4_alarms g27 1 = g28 at hR hP hD
          replace hR := bnd_e hR
          refine lv_iconst (v := 0) hx hb dX4_gates_269 (by decide) ?_
          subst hR
          exact krZ hx hb hr hlk hP hD hS dX4_gates_270 (by decide) rfl rfl

theorem hdX4_acts : yX4_acts.cls = RX4 ∧ yX4_acts.cls ≠ "java/lang/invoke/MethodHandle" ∧ yX4_acts.cls ≠ "java/lang/invoke/VarHandle" ∧ (parseMethodDescriptor yX4_acts.desc).map (fun d => d.parameters.length) = some 1 := by decide +kernel
def fx4_acts (g : (Nat → Int32)) (x1 : Int32) : Int32 × ((Nat → Int32)) := (if (g (fx4_entry x1 1).toNatClampNeg) = (g 7) then (bnd (fx4_labels g x1) (fun g3 => (1, g3))) else (if (g (fx4_entry x1 1).toNatClampNeg) = (g 8) then (bnd (fx4_looks g x1 0) (fun g6 => (1, g6))) else (if (g (fx4_entry x1 1).toNatClampNeg) = (g 9) then (bnd (fx4_looks g x1 1) (fun g9 => (1, g9))) else (if (g (fx4_entry x1 1).toNatClampNeg) = (g 10) then (bnd (fx4_gates g x1) (fun u12 => (u12.1, u12.2))) else (if (g (fx4_entry x1 1).toNatClampNeg) ≤ ((g 11) + (g 5)) then (1, g) else (if (g (fx4_entry x1 5).toNatClampNeg) = 1 then (bnd (fx4_leaves g x1 1) (fun g18 => (0, g18))) else (bnd (fx4_leaves g x1 3) (fun g20 => (0, g20)))))))))
def sx4_acts (g : (Nat → Int32)) (x1 : Int32) : Prop := (vp_in (fx4_entry x1 1) 1203 ∧ (if (g (fx4_entry x1 1).toNatClampNeg) = (g 7) then sx4_labels g x1 else (if (g (fx4_entry x1 1).toNatClampNeg) = (g 8) then sx4_looks g x1 0 else (if (g (fx4_entry x1 1).toNatClampNeg) = (g 9) then sx4_looks g x1 1 else (if (g (fx4_entry x1 1).toNatClampNeg) = (g 10) then (sx4_gates g x1 ∧ (bnd (fx4_gates g x1) (fun u12 => kbo (u12.1)))) else (if (g (fx4_entry x1 1).toNatClampNeg) ≤ ((g 11) + (g 5)) then True else (vp_in (fx4_entry x1 5) 1203 ∧ (if (g (fx4_entry x1 5).toNatClampNeg) = 1 then sx4_leaves g x1 1 else sx4_leaves g x1 3))))))))
set_option maxHeartbeats 4000000 in
set_option maxRecDepth 100000 in
theorem cx4_acts {l : Launch} {D : va_G} {cI cB cS cJ : ClassId} {K : State → Prop} (E : kE D cI cB cS cJ K) (am : Nat → Nat) (sv rf ln : Int32) (hs : Int64) (g : (Nat → Int32)) (x1 : Int32) (hF : sx4_acts g x1) : kI l D K yX4_acts wsX4_acts 3 71 [.ref (am 0), .int x1] (mnW cI am sv rf ln hs g) (fx4_acts g x1).1 (mnW cI am sv rf ln hs (fx4_acts g x1).2) := by
  refine kI_of (own := RX4) (cc := cX4_acts) (maxL := 3) (tys := kty cI cB cS cJ) (fun U h => (E.2 U h).1) (by decide) rfl rfl (Nat.le_of_ble_eq_true rfl) ?_
  intro p e s m below meth c A ls hx hb hr hml hts hown hlk hKs hK hP hD hA hS hl
  have hl : lv_has ls 3 [(0, .ref (am 0)), (1, .int x1)] := hl
  have hX : CallFix p m c cX4_acts 3 s _ wsX4_acts RX4 := ⟨hx, hb, hml, hown, hts⟩
  have hinX4 : ∀ w ∈ wsX40, w ∈ wsX4_acts := fun w h => List.mem_cons_of_mem _ (List.mem_append_right _ h)
  have q1 := hts (.fieldLink RX4 7 "LabelStationModel" "now" "[I") (List.mem_of_getElem? (i := 1) rfl)
  generalize hR : fx4_acts g x1 = R
  rw [fx4_acts] at hR
  rw [sx4_acts] at hF
  refine lv_aload_n hx hb dX4_acts_0 rfl (lv_at hl 0 rfl) ?_
  refine va_get (D := D) (ci := 4) (v := .ref (am 1)) (C := RX4) (T := TX4) (N := 8) hx hb hts hinX4 hown hK hP 0 rfl rfl 0 (by decide) q1 (fun _ h9 => h9) rfl dX4_acts_1 ?_
  refine lv_iload_n hx hb dX4_acts_4 rfl (lv_at hl 1 rfl) ?_
  refine lv_iconst (v := 1) hx hb dX4_acts_5 (by decide) ?_
  refine kcsI (As := [.int x1, .int 1]) (rest := [.ref (am 1)]) E.1 (cx4_entry E x1 1) hX (va_cwS 2 hts gX4_acts_X4_entry rfl rfl rfl hdX4_entry.2 ⟨Nat.le_of_ble_eq_true rfl, Nat.le_of_ble_eq_true rfl⟩) hKs hP hD hS hA _ _ (kw_nil _) (kw_nil _).symm rfl rfl hl.1 (Nat.le_of_ble_eq_true rfl) dX4_acts_6 ⟨Nat.zero_le _, Nat.zero_le _⟩ (fun H locs hP hD hS => ?_)
  obtain ⟨hi1, hF⟩ := hF
  refine va_iald hx hb hK hP 1 0 rfl rfl hi1 dX4_acts_9 ?_
  refine lv_istore_n (lv' := [(2, .int (g (fx4_entry x1 1).toNatClampNeg)), (0, .ref (am 0)), (1, .int x1)]) hx hb dX4_acts_10 rfl hl (by decide) rfl (fun ls hl => ?_)
  refine lv_iload_n hx hb dX4_acts_11 rfl (lv_at hl 0 rfl) ?_
  refine lv_aload_n hx hb dX4_acts_12 rfl (lv_at hl 1 rfl) ?_
  refine va_get (D := D) (ci := 4) (v := .ref (am 1)) (C := RX4) (T := TX4) (N := 8) hx hb hts hinX4 hown hK hP 0 rfl rfl 0 (by decide) q1 (fun _ h9 => h9) rfl dX4_acts_13 ?_
  refine lv_bipush (v := 7) hx hb dX4_acts_16 (by decide) ?_
  refine va_iald hx hb hK hP 1 0 rfl rfl (kin_lit (j := 7) (n := 1203) (by decide) (by decide)) dX4_acts_18 ?_
  refine kw_top (v := .int (g 7)) rfl ?_
  refine lv_icmp_ne (tgt := 30) hx hb dX4_acts_19 (by decide) (fun c2 => ?_) (fun c2 => ?_)
  · rw [if_neg c2] at hR hF
    refine lv_iload_n hx hb dX4_acts_30 rfl (lv_at hl 0 rfl) ?_
    refine lv_aload_n hx hb dX4_acts_31 rfl (lv_at hl 1 rfl) ?_
    refine va_get (D := D) (ci := 4) (v := .ref (am 1)) (C := RX4) (T := TX4) (N := 8) hx hb hts hinX4 hown hK hP 0 rfl rfl 0 (by decide) q1 (fun _ h9 => h9) rfl dX4_acts_32 ?_
    refine lv_bipush (v := 8) hx hb dX4_acts_35 (by decide) ?_
    refine va_iald hx hb hK hP 1 0 rfl rfl (kin_lit (j := 8) (n := 1203) (by decide) (by decide)) dX4_acts_37 ?_
    refine kw_top (v := .int (g 8)) rfl ?_
    refine lv_icmp_ne (tgt := 50) hx hb dX4_acts_38 (by decide) (fun c5 => ?_) (fun c5 => ?_)
    · rw [if_neg c5] at hR hF
      refine lv_iload_n hx hb dX4_acts_50 rfl (lv_at hl 0 rfl) ?_
      refine lv_aload_n hx hb dX4_acts_51 rfl (lv_at hl 1 rfl) ?_
      refine va_get (D := D) (ci := 4) (v := .ref (am 1)) (C := RX4) (T := TX4) (N := 8) hx hb hts hinX4 hown hK hP 0 rfl rfl 0 (by decide) q1 (fun _ h9 => h9) rfl dX4_acts_52 ?_
      refine lv_bipush (v := 9) hx hb dX4_acts_55 (by decide) ?_
      refine va_iald hx hb hK hP 1 0 rfl rfl (kin_lit (j := 9) (n := 1203) (by decide) (by decide)) dX4_acts_57 ?_
      refine kw_top (v := .int (g 9)) rfl ?_
      refine lv_icmp_ne (tgt := 70) hx hb dX4_acts_58 (by decide) (fun c8 => ?_) (fun c8 => ?_)
      · rw [if_neg c8] at hR hF
        refine lv_iload_n hx hb dX4_acts_70 rfl (lv_at hl 0 rfl) ?_
        refine lv_aload_n hx hb dX4_acts_71 rfl (lv_at hl 1 rfl) ?_
        refine va_get (D := D) (ci := 4) (v := .ref (am 1)) (C := RX4) (T := TX4) (N := 8) hx hb hts hinX4 hown hK hP 0 rfl rfl 0 (by decide) q1 (fun _ h9 => h9) rfl dX4_acts_72 ?_
        refine lv_bipush (v := 10) hx hb dX4_acts_75 (by decide) ?_
        refine va_iald hx hb hK hP 1 0 rfl rfl (kin_lit (j := 10) (n := 1203) (by decide) (by decide)) dX4_acts_77 ?_
        refine kw_top (v := .int (g 10)) rfl ?_
        refine lv_icmp_ne (tgt := 87) hx hb dX4_acts_78 (by decide) (fun c11 => ?_) (fun c11 => ?_)
        · rw [if_neg c11] at hR hF
          refine lv_iload_n hx hb dX4_acts_87 rfl (lv_at hl 0 rfl) ?_
          refine lv_aload_n hx hb dX4_acts_88 rfl (lv_at hl 1 rfl) ?_
          refine va_get (D := D) (ci := 4) (v := .ref (am 1)) (C := RX4) (T := TX4) (N := 8) hx hb hts hinX4 hown hK hP 0 rfl rfl 0 (by decide) q1 (fun _ h9 => h9) rfl dX4_acts_89 ?_
          refine lv_bipush (v := 11) hx hb dX4_acts_92 (by decide) ?_
          refine va_iald hx hb hK hP 1 0 rfl rfl (kin_lit (j := 11) (n := 1203) (by decide) (by decide)) dX4_acts_94 ?_
          refine kw_top (v := .int (g 11)) rfl ?_
          refine lv_aload_n hx hb dX4_acts_95 rfl (lv_at hl 1 rfl) ?_
          refine va_get (D := D) (ci := 4) (v := .ref (am 1)) (C := RX4) (T := TX4) (N := 8) hx hb hts hinX4 hown hK hP 0 rfl rfl 0 (by decide) q1 (fun _ h9 => h9) rfl dX4_acts_96 ?_
          refine lv_iconst (v := 5) hx hb dX4_acts_99 (by decide) ?_
          refine va_iald hx hb hK hP 1 0 rfl rfl (kin_lit (j := 5) (n := 1203) (by decide) (by decide)) dX4_acts_100 ?_
          refine kw_top (v := .int (g 5)) rfl ?_
          refine lv_iadd hx hb dX4_acts_101 ?_
          refine lv_icmp_le (tgt := 131) hx hb dX4_acts_102 (by decide) (fun c15 => ?_) (fun c15 => ?_)
          · rw [if_pos c15] at hR hF
            refine lv_iconst (v := 1) hx hb dX4_acts_131 (by decide) ?_
            subst hR
            exact krZ hx hb hr hlk hP hD hS dX4_acts_132 (by decide) rfl rfl
          · rw [if_neg c15] at hR hF
            refine lv_aload_n hx hb dX4_acts_105 rfl (lv_at hl 1 rfl) ?_
            refine lv_iload_n hx hb dX4_acts_106 rfl (lv_at hl 2 rfl) ?_
            refine lv_aload_n hx hb dX4_acts_107 rfl (lv_at hl 1 rfl) ?_
            refine va_get (D := D) (ci := 4) (v := .ref (am 1)) (C := RX4) (T := TX4) (N := 8) hx hb hts hinX4 hown hK hP 0 rfl rfl 0 (by decide) q1 (fun _ h9 => h9) rfl dX4_acts_108 ?_
            refine lv_iload_n hx hb dX4_acts_111 rfl (lv_at hl 2 rfl) ?_
            refine lv_iconst (v := 5) hx hb dX4_acts_112 (by decide) ?_
            refine kcsI (As := [.int x1, .int 5]) (rest := [.ref (am 1), .int x1, .ref (am 0)]) E.1 (cx4_entry E x1 5) hX (va_cwS 2 hts gX4_acts_X4_entry rfl rfl rfl hdX4_entry.2 ⟨Nat.le_of_ble_eq_true rfl, Nat.le_of_ble_eq_true rfl⟩) hKs hP hD hS hA _ _ (kw_nil _) (kw_nil _).symm rfl rfl hl.1 (Nat.le_of_ble_eq_true rfl) dX4_acts_113 ⟨Nat.zero_le _, Nat.zero_le _⟩ (fun H locs hP hD hS => ?_)
            obtain ⟨hi16, hF⟩ := hF
            refine va_iald hx hb hK hP 1 0 rfl rfl hi16 dX4_acts_116 ?_
            refine lv_iconst (v := 1) hx hb dX4_acts_117 (by decide) ?_
            refine lv_icmp_ne (tgt := 125) hx hb dX4_acts_118 (by decide) (fun c17 => ?_) (fun c17 => ?_)
            · rw [if_neg c17] at hR hF
              refine lv_iconst (v := 3) hx hb dX4_acts_125 (by decide) ?_
              have hs21 := hF
              refine kcV (ci := 4) (q0 := 0) (As := [.int x1, .int 3]) (rest := []) E.1 (cx4_leaves E am sv rf ln hs g x1 3 hs21) hX (cwV 2 hts gX4_acts_X4_leaves rfl rfl rfl hdX4_leaves ⟨Nat.le_of_ble_eq_true rfl, Nat.le_of_ble_eq_true rfl⟩) hKs hK hP hD hS hA _ _ (kw_self _) (kw_self _).symm rfl rfl rfl rfl hl.1 (Nat.le_of_ble_eq_true rfl) dX4_acts_126 ⟨Nat.zero_le _, Nat.zero_le _⟩ (fun H locs hP hD hS => ?_)
              have hP : va_P D vwCl (mnW cI am sv rf ln hs (fx4_leaves g x1 3)) H := hP
              have hD : va_D A (mnW cI am sv rf ln hs (fx4_leaves g x1 3)) := hD
              generalize eg20 : fx4_leaves g x1 3 = g20 at hR hP hD
              replace hR := bnd_e hR
              refine lv_iconst (v := 0) hx hb dX4_acts_129 (by decide) ?_
              subst hR
              exact krZ hx hb hr hlk hP hD hS dX4_acts_130 (by decide) rfl rfl
            · rw [if_pos c17] at hR hF
              refine lv_iconst (v := 1) hx hb dX4_acts_121 (by decide) ?_
              refine lv_goto (tgt := 126) hx hb dX4_acts_122 (by decide) ?_
              have hs19 := hF
              refine kcV (ci := 4) (q0 := 0) (As := [.int x1, .int 1]) (rest := []) E.1 (cx4_leaves E am sv rf ln hs g x1 1 hs19) hX (cwV 2 hts gX4_acts_X4_leaves rfl rfl rfl hdX4_leaves ⟨Nat.le_of_ble_eq_true rfl, Nat.le_of_ble_eq_true rfl⟩) hKs hK hP hD hS hA _ _ (kw_self _) (kw_self _).symm rfl rfl rfl rfl hl.1 (Nat.le_of_ble_eq_true rfl) dX4_acts_126 ⟨Nat.zero_le _, Nat.zero_le _⟩ (fun H locs hP hD hS => ?_)
              have hP : va_P D vwCl (mnW cI am sv rf ln hs (fx4_leaves g x1 1)) H := hP
              have hD : va_D A (mnW cI am sv rf ln hs (fx4_leaves g x1 1)) := hD
              generalize eg18 : fx4_leaves g x1 1 = g18 at hR hP hD
              replace hR := bnd_e hR
              refine lv_iconst (v := 0) hx hb dX4_acts_129 (by decide) ?_
              subst hR
              exact krZ hx hb hr hlk hP hD hS dX4_acts_130 (by decide) rfl rfl
        · rw [if_pos c11] at hR hF
          refine lv_aload_n hx hb dX4_acts_81 rfl (lv_at hl 1 rfl) ?_
          refine lv_iload_n hx hb dX4_acts_82 rfl (lv_at hl 2 rfl) ?_
          obtain ⟨hs14, hF⟩ := hF
          refine kcI (ci := 4) (q0 := 0) (As := [.int x1]) (rest := []) E.1 (cx4_gates E am sv rf ln hs g x1 hs14) hX (cwV 1 hts gX4_acts_X4_gates rfl rfl rfl hdX4_gates ⟨Nat.le_of_ble_eq_true rfl, Nat.le_of_ble_eq_true rfl⟩) hKs hK hP hD hS hA _ _ (kw_self _) (kw_self _).symm rfl rfl rfl rfl hl.1 (Nat.le_of_ble_eq_true rfl) dX4_acts_83 ⟨Nat.zero_le _, Nat.zero_le _⟩ (fun H locs hP hD hS => ?_)
          have hP : va_P D vwCl (mnW cI am sv rf ln hs ((fx4_gates g x1).2)) H := hP
          have hD : va_D A (mnW cI am sv rf ln hs ((fx4_gates g x1).2)) := hD
          generalize eu12 : fx4_gates g x1 = u12 at hR hF hP hD ⊢
          replace hR := bnd_e hR
          replace hF := bnd_p hF
          subst hR
          exact krZ hx hb hr hlk hP hD hS dX4_acts_86 (kbo_n hF) rfl rfl
      · rw [if_pos c8] at hR hF
        refine lv_aload_n hx hb dX4_acts_61 rfl (lv_at hl 1 rfl) ?_
        refine lv_iload_n hx hb dX4_acts_62 rfl (lv_at hl 2 rfl) ?_
        refine lv_iconst (v := 1) hx hb dX4_acts_63 (by decide) ?_
        have hs10 := hF
        refine kcV (ci := 4) (q0 := 0) (As := [.int x1, .int 1]) (rest := []) E.1 (cx4_looks E am sv rf ln hs g x1 1 hs10) hX (cwV 2 hts gX4_acts_X4_looks rfl rfl rfl hdX4_looks ⟨Nat.le_of_ble_eq_true rfl, Nat.le_of_ble_eq_true rfl⟩) hKs hK hP hD hS hA _ _ (kw_self _) (kw_self _).symm rfl rfl rfl rfl hl.1 (Nat.le_of_ble_eq_true rfl) dX4_acts_64 ⟨Nat.zero_le _, Nat.zero_le _⟩ (fun H locs hP hD hS => ?_)
        have hP : va_P D vwCl (mnW cI am sv rf ln hs (fx4_looks g x1 1)) H := hP
        have hD : va_D A (mnW cI am sv rf ln hs (fx4_looks g x1 1)) := hD
        generalize eg9 : fx4_looks g x1 1 = g9 at hR hP hD
        replace hR := bnd_e hR
        refine lv_goto (tgt := 131) hx hb dX4_acts_67 (by decide) ?_
        refine lv_iconst (v := 1) hx hb dX4_acts_131 (by decide) ?_
        subst hR
        exact krZ hx hb hr hlk hP hD hS dX4_acts_132 (by decide) rfl rfl
    · rw [if_pos c5] at hR hF
      refine lv_aload_n hx hb dX4_acts_41 rfl (lv_at hl 1 rfl) ?_
      refine lv_iload_n hx hb dX4_acts_42 rfl (lv_at hl 2 rfl) ?_
      refine lv_iconst (v := 0) hx hb dX4_acts_43 (by decide) ?_
      have hs7 := hF
      refine kcV (ci := 4) (q0 := 0) (As := [.int x1, .int 0]) (rest := []) E.1 (cx4_looks E am sv rf ln hs g x1 0 hs7) hX (cwV 2 hts gX4_acts_X4_looks rfl rfl rfl hdX4_looks ⟨Nat.le_of_ble_eq_true rfl, Nat.le_of_ble_eq_true rfl⟩) hKs hK hP hD hS hA _ _ (kw_self _) (kw_self _).symm rfl rfl rfl rfl hl.1 (Nat.le_of_ble_eq_true rfl) dX4_acts_44 ⟨Nat.zero_le _, Nat.zero_le _⟩ (fun H locs hP hD hS => ?_)
      have hP : va_P D vwCl (mnW cI am sv rf ln hs (fx4_looks g x1 0)) H := hP
      have hD : va_D A (mnW cI am sv rf ln hs (fx4_looks g x1 0)) := hD
      generalize eg6 : fx4_looks g x1 0 = g6 at hR hP hD
      replace hR := bnd_e hR
      refine lv_goto (tgt := 131) hx hb dX4_acts_47 (by decide) ?_
      refine lv_iconst (v := 1) hx hb dX4_acts_131 (by decide) ?_
      subst hR
      exact krZ hx hb hr hlk hP hD hS dX4_acts_132 (by decide) rfl rfl
  · rw [if_pos c2] at hR hF
    refine lv_aload_n hx hb dX4_acts_22 rfl (lv_at hl 1 rfl) ?_
    refine lv_iload_n hx hb dX4_acts_23 rfl (lv_at hl 2 rfl) ?_
    have hs4 := hF
    refine kcV (ci := 4) (q0 := 0) (As := [.int x1]) (rest := []) E.1 (cx4_labels E am sv rf ln hs g x1 hs4) hX (cwV 1 hts gX4_acts_X4_labels rfl rfl rfl hdX4_labels ⟨Nat.le_of_ble_eq_true rfl, Nat.le_of_ble_eq_true rfl⟩) hKs hK hP hD hS hA _ _ (kw_self _) (kw_self _).symm rfl rfl rfl rfl hl.1 (Nat.le_of_ble_eq_true rfl) dX4_acts_24 ⟨Nat.zero_le _, Nat.zero_le _⟩ (fun H locs hP hD hS => ?_)
    have hP : va_P D vwCl (mnW cI am sv rf ln hs (fx4_labels g x1)) H := hP
    have hD : va_D A (mnW cI am sv rf ln hs (fx4_labels g x1)) := hD
    generalize eg3 : fx4_labels g x1 = g3 at hR hP hD
    replace hR := bnd_e hR
    refine lv_goto (tgt := 131) hx hb dX4_acts_27 (by decide) ?_
    refine lv_iconst (v := 1) hx hb dX4_acts_131 (by decide) ?_
    subst hR
    exact krZ hx hb hr hlk hP hD hS dX4_acts_132 (by decide) rfl rfl

theorem hdX4_exits : yX4_exits.cls = RX4 ∧ yX4_exits.cls ≠ "java/lang/invoke/MethodHandle" ∧ yX4_exits.cls ≠ "java/lang/invoke/VarHandle" ∧ (parseMethodDescriptor yX4_exits.desc).map (fun d => d.parameters.length) = some 0 := by decide +kernel
def fx4_exits_L19 : Nat → Int32 → Int32 → Int32 → (Nat → Int32) → (Nat → Int32)
  | 0, _, _, _, g => g
  | n19 + 1, y1, y2, y3, g => (if (g 117) ≤ y3 then (if y1 = (-1) then (bnd (fx4_counts g 9) (fun g20003 => (bnd (fx4_alarms g20003 4) (fun g20004 => g20004)))) else (bnd (upd g (fx4_entry y1 5).toNatClampNeg 1) (fun g20008 => g20008))) else (if 0 ≤ ((g (fx4_entry y3 1).toNatClampNeg) - (g 11)) then (if (g (fx4_entry y3 4).toNatClampNeg) = 1 then (if (g (fx4_entry y3 5).toNatClampNeg) = 0 then (if y2 ≤ ((g (fx4_entry y3 1).toNatClampNeg) - (g 11)) then fx4_exits_L19 n19 y1 y2 (y3 + 1) g else fx4_exits_L19 n19 y3 ((g (fx4_entry y3 1).toNatClampNeg) - (g 11)) (y3 + 1) g) else fx4_exits_L19 n19 y1 y2 (y3 + 1) g) else fx4_exits_L19 n19 y1 y2 (y3 + 1) g) else (if (g (fx4_entry y3 4).toNatClampNeg) = 1 then (if (g (fx4_entry y3 5).toNatClampNeg) = 0 then (if y2 ≤ (-((g (fx4_entry y3 1).toNatClampNeg) - (g 11))) then fx4_exits_L19 n19 y1 y2 (y3 + 1) g else fx4_exits_L19 n19 y3 (-((g (fx4_entry y3 1).toNatClampNeg) - (g 11))) (y3 + 1) g) else fx4_exits_L19 n19 y1 y2 (y3 + 1) g) else fx4_exits_L19 n19 y1 y2 (y3 + 1) g)))
def sx4_exits_L19 : Nat → Int32 → Int32 → Int32 → (Nat → Int32) → Prop
  | 0, _, _, _, _ => False
  | n19 + 1, y1, y2, y3, g => (if (g 117) ≤ y3 then (if y1 = (-1) then (sx4_counts g 9 ∧ (bnd (fx4_counts g 9) (fun g20003 => sx4_alarms g20003 4))) else vp_in (fx4_entry y1 5) 1203) else (vp_in (fx4_entry y3 1) 1203 ∧ (if 0 ≤ ((g (fx4_entry y3 1).toNatClampNeg) - (g 11)) then (vp_in (fx4_entry y3 4) 1203 ∧ (if (g (fx4_entry y3 4).toNatClampNeg) = 1 then (vp_in (fx4_entry y3 5) 1203 ∧ (if (g (fx4_entry y3 5).toNatClampNeg) = 0 then (if y2 ≤ ((g (fx4_entry y3 1).toNatClampNeg) - (g 11)) then sx4_exits_L19 n19 y1 y2 (y3 + 1) g else sx4_exits_L19 n19 y3 ((g (fx4_entry y3 1).toNatClampNeg) - (g 11)) (y3 + 1) g) else sx4_exits_L19 n19 y1 y2 (y3 + 1) g)) else sx4_exits_L19 n19 y1 y2 (y3 + 1) g)) else (vp_in (fx4_entry y3 4) 1203 ∧ (if (g (fx4_entry y3 4).toNatClampNeg) = 1 then (vp_in (fx4_entry y3 5) 1203 ∧ (if (g (fx4_entry y3 5).toNatClampNeg) = 0 then (if y2 ≤ (-((g (fx4_entry y3 1).toNatClampNeg) - (g 11))) then sx4_exits_L19 n19 y1 y2 (y3 + 1) g else sx4_exits_L19 n19 y3 (-((g (fx4_entry y3 1).toNatClampNeg) - (g 11))) (y3 + 1) g) else sx4_exits_L19 n19 y1 y2 (y3 + 1) g)) else sx4_exits_L19 n19 y1 y2 (y3 + 1) g)))))
def fx4_exits (g : (Nat → Int32)) : (Nat → Int32) := (bnd (fx4_counts g 8) (fun g1 => fx4_exits_L19 kfu (-1) ((g1 5) + 1) 0 g1))
def sx4_exits (g : (Nat → Int32)) : Prop := (sx4_counts g 8 ∧ (bnd (fx4_counts g 8) (fun g1 => sx4_exits_L19 kfu (-1) ((g1 5) + 1) 0 g1)))
set_option maxHeartbeats 4000000 in
set_option maxRecDepth 100000 in
theorem cx4_exits {l : Launch} {D : va_G} {cI cB cS cJ : ClassId} {K : State → Prop} (E : kE D cI cB cS cJ K) (am : Nat → Nat) (sv rf ln : Int32) (hs : Int64) (g : (Nat → Int32)) (hF : sx4_exits g) : kV l D K yX4_exits wsX4_exits 2 42 [.ref (am 0)] (mnW cI am sv rf ln hs g)  (mnW cI am sv rf ln hs (fx4_exits g)) := by
  refine kV_of (own := RX4) (cc := cX4_exits) (maxL := 5) (tys := kty cI cB cS cJ) (fun U h => (E.2 U h).1) (by decide) rfl rfl (Nat.le_of_ble_eq_true rfl) ?_
  intro p e s m below meth c A ls hx hb hr hml hts hown hlk hKs hK hP hD hA hS hl
  have hl : lv_has ls 5 [(0, .ref (am 0))] := hl
  have hX : CallFix p m c cX4_exits 5 s _ wsX4_exits RX4 := ⟨hx, hb, hml, hown, hts⟩
  have hinX4 : ∀ w ∈ wsX40, w ∈ wsX4_exits := fun w h => List.mem_cons_of_mem _ (List.mem_append_right _ h)
  have q1 := hts (.fieldLink RX4 7 "LabelStationModel" "now" "[I") (List.mem_of_getElem? (i := 1) rfl)
  generalize hR : fx4_exits g = R
  rw [fx4_exits] at hR
  rw [sx4_exits] at hF
  refine lv_aload_n hx hb dX4_exits_0 rfl (lv_at hl 0 rfl) ?_
  refine lv_bipush (v := 8) hx hb dX4_exits_1 (by decide) ?_
  obtain ⟨hs2, hF⟩ := hF
  refine kcV (ci := 4) (q0 := 0) (As := [.int 8]) (rest := []) E.1 (cx4_counts E am sv rf ln hs g 8 hs2) hX (cwV 1 hts gX4_exits_X4_counts rfl rfl rfl hdX4_counts ⟨Nat.le_of_ble_eq_true rfl, Nat.le_of_ble_eq_true rfl⟩) hKs hK hP hD hS hA _ _ (kw_self _) (kw_self _).symm rfl rfl rfl rfl hl.1 (Nat.le_of_ble_eq_true rfl) dX4_exits_3 ⟨Nat.zero_le _, Nat.zero_le _⟩ (fun H locs hP hD hS => ?_)
  have hP : va_P D vwCl (mnW cI am sv rf ln hs (fx4_counts g 8)) H := hP
  have hD : va_D A (mnW cI am sv rf ln hs (fx4_counts g 8)) := hD
  generalize eg1 : fx4_counts g 8 = g1 at hR hF hP hD
  replace hR := bnd_e hR
  replace hF := bnd_p hF
  refine lv_iconst (v := (-1)) hx hb dX4_exits_6 (by decide) ?_
  refine lv_istore_n (lv' := [(1, .int (-1)), (0, .ref (am 0))]) hx hb dX4_exits_7 rfl hl (by decide) rfl (fun ls hl => ?_)
  refine lv_aload_n hx hb dX4_exits_8 rfl (lv_at hl 1 rfl) ?_
  refine va_get (D := D) (ci := 4) (v := .ref (am 1)) (C := RX4) (T := TX4) (N := 8) hx hb hts hinX4 hown hK hP 0 rfl rfl 0 (by decide) q1 (fun _ h9 => h9) rfl dX4_exits_9 ?_
  refine lv_iconst (v := 5) hx hb dX4_exits_12 (by decide) ?_
  refine va_iald hx hb hK hP 1 0 rfl rfl (kin_lit (j := 5) (n := 1203) (by decide) (by decide)) dX4_exits_13 ?_
  refine kw_top (v := .int (g1 5)) rfl ?_
  refine lv_iconst (v := 1) hx hb dX4_exits_14 (by decide) ?_
  refine lv_iadd hx hb dX4_exits_15 ?_
  refine lv_istore_n (lv' := [(2, .int ((g1 5) + 1)), (1, .int (-1)), (0, .ref (am 0))]) hx hb dX4_exits_16 rfl hl (by decide) rfl (fun ls hl => ?_)
  refine lv_iconst (v := 0) hx hb dX4_exits_17 (by decide) ?_
  refine lv_istore_n (lv' := [(3, .int 0), (2, .int ((g1 5) + 1)), (1, .int (-1)), (0, .ref (am 0))]) hx hb dX4_exits_18 rfl hl (by decide) rfl (fun ls hl => ?_)
  have loop19 : ∀ (n19 : Nat) (y1 : Int32) (y2 : Int32) (y3 : Int32) (g : (Nat → Int32)) (H : Heap) (locs : List Loc) (ls : Array Slot), fx4_exits_L19 n19 y1 y2 y3 g = R → sx4_exits_L19 n19 y1 y2 y3 g → va_P D vwCl (mnW cI am sv rf ln hs g) H → va_D A (mnW cI am sv rf ln hs g) → va_S A s.heap H locs → lv_has ls 5 [(1, .int y1), (2, .int y2), (3, .int y3), (0, .ref (am 0))] → W p l e (kRm 2 42) s m ([.ref (am 0)] : List Value).toArray below meth c H locs 0 0 (kQV D below (mnW cI am sv rf ln hs R) A ([.ref (am 0)] : List Value).toArray s) (F0 m 19 ls []) := by
    intro n19
    induction n19 with
    | zero => intro y1 y2 y3 g H locs ls hR hF; exact hF.elim
    | succ n19 ih19 =>
      intro y1 y2 y3 g H locs ls hR hF hP hD hS hl
      rw [fx4_exits_L19] at hR
      rw [sx4_exits_L19] at hF
      refine lv_iload_n hx hb dX4_exits_19 rfl (lv_at hl 2 rfl) ?_
      refine lv_aload_n hx hb dX4_exits_20 rfl (lv_at hl 3 rfl) ?_
      refine va_get (D := D) (ci := 4) (v := .ref (am 1)) (C := RX4) (T := TX4) (N := 8) hx hb hts hinX4 hown hK hP 0 rfl rfl 0 (by decide) q1 (fun _ h9 => h9) rfl dX4_exits_21 ?_
      refine lv_bipush (v := 117) hx hb dX4_exits_24 (by decide) ?_
      refine va_iald hx hb hK hP 1 0 rfl rfl (kin_lit (j := 117) (n := 1203) (by decide) (by decide)) dX4_exits_26 ?_
      refine kw_top (v := .int (g 117)) rfl ?_
      refine lv_icmp_ge (tgt := 109) hx hb dX4_exits_27 (by decide) (fun c20001 => ?_) (fun c20001 => ?_)
      · rw [if_pos c20001] at hR hF
        refine lv_iload_n hx hb dX4_exits_109 rfl (lv_at hl 0 rfl) ?_
        refine lv_iconst (v := (-1)) hx hb dX4_exits_110 (by decide) ?_
        refine lv_icmp_ne (tgt := 128) hx hb dX4_exits_111 (by decide) (fun c20002 => ?_) (fun c20002 => ?_)
        · rw [if_neg c20002] at hR hF
          refine lv_aload_n hx hb dX4_exits_128 rfl (lv_at hl 3 rfl) ?_
          refine va_get (D := D) (ci := 4) (v := .ref (am 1)) (C := RX4) (T := TX4) (N := 8) hx hb hts hinX4 hown hK hP 0 rfl rfl 0 (by decide) q1 (fun _ h9 => h9) rfl dX4_exits_129 ?_
          refine lv_iload_n hx hb dX4_exits_132 rfl (lv_at hl 0 rfl) ?_
          refine lv_iconst (v := 5) hx hb dX4_exits_133 (by decide) ?_
          refine kcsI (As := [.int y1, .int 5]) (rest := [.ref (am 1)]) E.1 (cx4_entry E y1 5) hX (va_cwS 2 hts gX4_exits_X4_entry rfl rfl rfl hdX4_entry.2 ⟨Nat.le_of_ble_eq_true rfl, Nat.le_of_ble_eq_true rfl⟩) hKs hP hD hS hA _ _ (kw_nil _) (kw_nil _).symm rfl rfl hl.1 (Nat.le_of_ble_eq_true rfl) dX4_exits_134 ⟨Nat.zero_le _, Nat.zero_le _⟩ (fun H locs hP hD hS => ?_)
          refine lv_iconst (v := 1) hx hb dX4_exits_137 (by decide) ?_
          have hi20007 := hF
          refine va_iast hx hb hK hP hD hS 1 0 rfl rfl hi20007 dX4_exits_138 (fun H locs hP hD hS => ?_)
          have hP : va_P D vwCl (mnW cI am sv rf ln hs (upd g (fx4_entry y1 5).toNatClampNeg 1)) H := hP
          have hD : va_D A (mnW cI am sv rf ln hs (upd g (fx4_entry y1 5).toNatClampNeg 1)) := hD
          generalize eg20008 : upd g (fx4_entry y1 5).toNatClampNeg 1 = g20008 at hR hP hD
          replace hR := bnd_e hR
          subst hR
          exact krV hx hb hr hlk hP hD hS dX4_exits_139 rfl
        · rw [if_pos c20002] at hR hF
          refine lv_aload_n hx hb dX4_exits_114 rfl (lv_at hl 3 rfl) ?_
          refine lv_bipush (v := 9) hx hb dX4_exits_115 (by decide) ?_
          obtain ⟨hs20006, hF⟩ := hF
          refine kcV (ci := 4) (q0 := 0) (As := [.int 9]) (rest := []) E.1 (cx4_counts E am sv rf ln hs g 9 hs20006) hX (cwV 1 hts gX4_exits_X4_counts rfl rfl rfl hdX4_counts ⟨Nat.le_of_ble_eq_true rfl, Nat.le_of_ble_eq_true rfl⟩) hKs hK hP hD hS hA _ _ (kw_self _) (kw_self _).symm rfl rfl rfl rfl hl.1 (Nat.le_of_ble_eq_true rfl) dX4_exits_117 ⟨Nat.zero_le _, Nat.zero_le _⟩ (fun H locs hP hD hS => ?_)
          have hP : va_P D vwCl (mnW cI am sv rf ln hs (fx4_counts g 9)) H := hP
          have hD : va_D A (mnW cI am sv rf ln hs (fx4_counts g 9)) := hD
          generalize eg20003 : fx4_counts g 9 = g20003 at hR hF hP hD
          replace hR := bnd_e hR
          replace hF := bnd_p hF
          refine lv_aload_n hx hb dX4_exits_120 rfl (lv_at hl 3 rfl) ?_
          refine lv_iconst (v := 4) hx hb dX4_exits_121 (by decide) ?_
          have hs20005 := hF
          refine kcV (ci := 4) (q0 := 0) (As := [.int 4]) (rest := []) E.1 (cx4_alarms E am sv rf ln hs g20003 4 hs20005) hX (cwV 1 hts gX4_exits_X4_alarms rfl rfl rfl hdX4_alarms ⟨Nat.le_of_ble_eq_true rfl, Nat.le_of_ble_eq_true rfl⟩) hKs hK hP hD hS hA _ _ (kw_self _) (kw_self _).symm rfl rfl rfl rfl hl.1 (Nat.le_of_ble_eq_true rfl) dX4_exits_122 ⟨Nat.zero_le _, Nat.zero_le _⟩ (fun H locs hP hD hS => ?_)
          have hP : va_P D vwCl (mnW cI am sv rf ln hs (fx4_alarms g20003 4)) H := hP
          have hD : va_D A (mnW cI am sv rf ln hs (fx4_alarms g20003 4)) := hD
          generalize eg20004 : fx4_alarms g20003 4 = g20004 at hR hP hD
          replace hR := bnd_e hR
          refine lv_goto (tgt := 139) hx hb dX4_exits_125 (by decide) ?_
          subst hR
          exact krV hx hb hr hlk hP hD hS dX4_exits_139 rfl
      · rw [if_neg c20001] at hR hF
        refine lv_aload_n hx hb dX4_exits_30 rfl (lv_at hl 3 rfl) ?_
        refine va_get (D := D) (ci := 4) (v := .ref (am 1)) (C := RX4) (T := TX4) (N := 8) hx hb hts hinX4 hown hK hP 0 rfl rfl 0 (by decide) q1 (fun _ h9 => h9) rfl dX4_exits_31 ?_
        refine lv_iload_n hx hb dX4_exits_34 rfl (lv_at hl 2 rfl) ?_
        refine lv_iconst (v := 1) hx hb dX4_exits_35 (by decide) ?_
        refine kcsI (As := [.int y3, .int 1]) (rest := [.ref (am 1)]) E.1 (cx4_entry E y3 1) hX (va_cwS 2 hts gX4_exits_X4_entry rfl rfl rfl hdX4_entry.2 ⟨Nat.le_of_ble_eq_true rfl, Nat.le_of_ble_eq_true rfl⟩) hKs hP hD hS hA _ _ (kw_nil _) (kw_nil _).symm rfl rfl hl.1 (Nat.le_of_ble_eq_true rfl) dX4_exits_36 ⟨Nat.zero_le _, Nat.zero_le _⟩ (fun H locs hP hD hS => ?_)
        obtain ⟨hi20009, hF⟩ := hF
        refine va_iald hx hb hK hP 1 0 rfl rfl hi20009 dX4_exits_39 ?_
        refine lv_aload_n hx hb dX4_exits_40 rfl (lv_at hl 3 rfl) ?_
        refine va_get (D := D) (ci := 4) (v := .ref (am 1)) (C := RX4) (T := TX4) (N := 8) hx hb hts hinX4 hown hK hP 0 rfl rfl 0 (by decide) q1 (fun _ h9 => h9) rfl dX4_exits_41 ?_
        refine lv_bipush (v := 11) hx hb dX4_exits_44 (by decide) ?_
        refine va_iald hx hb hK hP 1 0 rfl rfl (kin_lit (j := 11) (n := 1203) (by decide) (by decide)) dX4_exits_46 ?_
        refine kw_top (v := .int (g 11)) rfl ?_
        refine lv_isub hx hb dX4_exits_47 ?_
        refine lv_istore (lv' := [(4, .int ((g (fx4_entry y3 1).toNatClampNeg) - (g 11))), (1, .int y1), (2, .int y2), (3, .int y3), (0, .ref (am 0))]) hx hb dX4_exits_48 hl (by decide) rfl (fun ls hl => ?_)
        refine lv_iload hx hb dX4_exits_50 (lv_at hl 0 rfl) ?_
        refine lv_if_ge (tgt := 61) hx hb dX4_exits_52 (by decide) (fun c20010 => ?_) (fun c20010 => ?_)
        · rw [if_pos c20010] at hR hF
          refine lv_iload hx hb dX4_exits_61 (lv_at hl 0 rfl) ?_
          refine lv_istore (lv' := [(4, .int ((g (fx4_entry y3 1).toNatClampNeg) - (g 11))), (1, .int y1), (2, .int y2), (3, .int y3), (0, .ref (am 0))]) hx hb dX4_exits_63 hl (by decide) rfl (fun ls hl => ?_)
          refine lv_aload_n hx hb dX4_exits_65 rfl (lv_at hl 4 rfl) ?_
          refine va_get (D := D) (ci := 4) (v := .ref (am 1)) (C := RX4) (T := TX4) (N := 8) hx hb hts hinX4 hown hK hP 0 rfl rfl 0 (by decide) q1 (fun _ h9 => h9) rfl dX4_exits_66 ?_
          refine lv_iload_n hx hb dX4_exits_69 rfl (lv_at hl 3 rfl) ?_
          refine lv_iconst (v := 4) hx hb dX4_exits_70 (by decide) ?_
          refine kcsI (As := [.int y3, .int 4]) (rest := [.ref (am 1)]) E.1 (cx4_entry E y3 4) hX (va_cwS 2 hts gX4_exits_X4_entry rfl rfl rfl hdX4_entry.2 ⟨Nat.le_of_ble_eq_true rfl, Nat.le_of_ble_eq_true rfl⟩) hKs hP hD hS hA _ _ (kw_nil _) (kw_nil _).symm rfl rfl hl.1 (Nat.le_of_ble_eq_true rfl) dX4_exits_71 ⟨Nat.zero_le _, Nat.zero_le _⟩ (fun H locs hP hD hS => ?_)
          obtain ⟨hi20011, hF⟩ := hF
          refine va_iald hx hb hK hP 1 0 rfl rfl hi20011 dX4_exits_74 ?_
          refine lv_iconst (v := 1) hx hb dX4_exits_75 (by decide) ?_
          refine lv_icmp_ne (tgt := 103) hx hb dX4_exits_76 (by decide) (fun c20012 => ?_) (fun c20012 => ?_)
          · rw [if_neg c20012] at hR hF
            refine lv_iinc (v := y3 + 1) (lv' := [(3, .int (y3 + 1)), (4, .int ((g (fx4_entry y3 1).toNatClampNeg) - (g 11))), (1, .int y1), (2, .int y2), (0, .ref (am 0))]) hx hb dX4_exits_103 hl (k := 3) rfl rfl (by decide) rfl (fun ls hl => ?_)
            refine lv_goto (tgt := 19) hx hb dX4_exits_106 (by decide) ?_
            exact ih19 y1 y2 (y3 + 1) g _ _ ls hR hF hP hD hS (lv_sub hl [2, 3, 0, 4] rfl)
          · rw [if_pos c20012] at hR hF
            refine lv_aload_n hx hb dX4_exits_79 rfl (lv_at hl 4 rfl) ?_
            refine va_get (D := D) (ci := 4) (v := .ref (am 1)) (C := RX4) (T := TX4) (N := 8) hx hb hts hinX4 hown hK hP 0 rfl rfl 0 (by decide) q1 (fun _ h9 => h9) rfl dX4_exits_80 ?_
            refine lv_iload_n hx hb dX4_exits_83 rfl (lv_at hl 3 rfl) ?_
            refine lv_iconst (v := 5) hx hb dX4_exits_84 (by decide) ?_
            refine kcsI (As := [.int y3, .int 5]) (rest := [.ref (am 1)]) E.1 (cx4_entry E y3 5) hX (va_cwS 2 hts gX4_exits_X4_entry rfl rfl rfl hdX4_entry.2 ⟨Nat.le_of_ble_eq_true rfl, Nat.le_of_ble_eq_true rfl⟩) hKs hP hD hS hA _ _ (kw_nil _) (kw_nil _).symm rfl rfl hl.1 (Nat.le_of_ble_eq_true rfl) dX4_exits_85 ⟨Nat.zero_le _, Nat.zero_le _⟩ (fun H locs hP hD hS => ?_)
            obtain ⟨hi20013, hF⟩ := hF
            refine va_iald hx hb hK hP 1 0 rfl rfl hi20013 dX4_exits_88 ?_
            refine lv_if_ne (tgt := 103) hx hb dX4_exits_89 (by decide) (fun c20014 => ?_) (fun c20014 => ?_)
            · rw [if_neg c20014] at hR hF
              refine lv_iinc (v := y3 + 1) (lv' := [(3, .int (y3 + 1)), (4, .int ((g (fx4_entry y3 1).toNatClampNeg) - (g 11))), (1, .int y1), (2, .int y2), (0, .ref (am 0))]) hx hb dX4_exits_103 hl (k := 3) rfl rfl (by decide) rfl (fun ls hl => ?_)
              refine lv_goto (tgt := 19) hx hb dX4_exits_106 (by decide) ?_
              exact ih19 y1 y2 (y3 + 1) g _ _ ls hR hF hP hD hS (lv_sub hl [2, 3, 0, 4] rfl)
            · rw [if_pos c20014] at hR hF
              refine lv_iload hx hb dX4_exits_92 (lv_at hl 0 rfl) ?_
              refine lv_iload_n hx hb dX4_exits_94 rfl (lv_at hl 2 rfl) ?_
              refine lv_icmp_ge (tgt := 103) hx hb dX4_exits_95 (by decide) (fun c20015 => ?_) (fun c20015 => ?_)
              · rw [if_pos c20015] at hR hF
                refine lv_iinc (v := y3 + 1) (lv' := [(3, .int (y3 + 1)), (4, .int ((g (fx4_entry y3 1).toNatClampNeg) - (g 11))), (1, .int y1), (2, .int y2), (0, .ref (am 0))]) hx hb dX4_exits_103 hl (k := 3) rfl rfl (by decide) rfl (fun ls hl => ?_)
                refine lv_goto (tgt := 19) hx hb dX4_exits_106 (by decide) ?_
                exact ih19 y1 y2 (y3 + 1) g _ _ ls hR hF hP hD hS (lv_sub hl [2, 3, 0, 4] rfl)
              · rw [if_neg c20015] at hR hF
                refine lv_iload hx hb dX4_exits_98 (lv_at hl 0 rfl) ?_
                refine lv_istore_n (lv' := [(2, .int ((g (fx4_entry y3 1).toNatClampNeg) - (g 11))), (4, .int ((g (fx4_entry y3 1).toNatClampNeg) - (g 11))), (1, .int y1), (3, .int y3), (0, .ref (am 0))]) hx hb dX4_exits_100 rfl hl (by decide) rfl (fun ls hl => ?_)
                refine lv_iload_n hx hb dX4_exits_101 rfl (lv_at hl 3 rfl) ?_
                refine lv_istore_n (lv' := [(1, .int y3), (2, .int ((g (fx4_entry y3 1).toNatClampNeg) - (g 11))), (4, .int ((g (fx4_entry y3 1).toNatClampNeg) - (g 11))), (3, .int y3), (0, .ref (am 0))]) hx hb dX4_exits_102 rfl hl (by decide) rfl (fun ls hl => ?_)
                refine lv_iinc (v := y3 + 1) (lv' := [(3, .int (y3 + 1)), (1, .int y3), (2, .int ((g (fx4_entry y3 1).toNatClampNeg) - (g 11))), (4, .int ((g (fx4_entry y3 1).toNatClampNeg) - (g 11))), (0, .ref (am 0))]) hx hb dX4_exits_103 hl (k := 3) rfl rfl (by decide) rfl (fun ls hl => ?_)
                refine lv_goto (tgt := 19) hx hb dX4_exits_106 (by decide) ?_
                exact ih19 y3 ((g (fx4_entry y3 1).toNatClampNeg) - (g 11)) (y3 + 1) g _ _ ls hR hF hP hD hS (lv_sub hl [1, 2, 0, 4] rfl)
        · rw [if_neg c20010] at hR hF
          refine lv_iload hx hb dX4_exits_55 (lv_at hl 0 rfl) ?_
          refine lv_ineg hx hb dX4_exits_57 ?_
          refine lv_goto (tgt := 63) hx hb dX4_exits_58 (by decide) ?_
          refine lv_istore (lv' := [(4, .int (-((g (fx4_entry y3 1).toNatClampNeg) - (g 11)))), (1, .int y1), (2, .int y2), (3, .int y3), (0, .ref (am 0))]) hx hb dX4_exits_63 hl (by decide) rfl (fun ls hl => ?_)
          refine lv_aload_n hx hb dX4_exits_65 rfl (lv_at hl 4 rfl) ?_
          refine va_get (D := D) (ci := 4) (v := .ref (am 1)) (C := RX4) (T := TX4) (N := 8) hx hb hts hinX4 hown hK hP 0 rfl rfl 0 (by decide) q1 (fun _ h9 => h9) rfl dX4_exits_66 ?_
          refine lv_iload_n hx hb dX4_exits_69 rfl (lv_at hl 3 rfl) ?_
          refine lv_iconst (v := 4) hx hb dX4_exits_70 (by decide) ?_
          refine kcsI (As := [.int y3, .int 4]) (rest := [.ref (am 1)]) E.1 (cx4_entry E y3 4) hX (va_cwS 2 hts gX4_exits_X4_entry rfl rfl rfl hdX4_entry.2 ⟨Nat.le_of_ble_eq_true rfl, Nat.le_of_ble_eq_true rfl⟩) hKs hP hD hS hA _ _ (kw_nil _) (kw_nil _).symm rfl rfl hl.1 (Nat.le_of_ble_eq_true rfl) dX4_exits_71 ⟨Nat.zero_le _, Nat.zero_le _⟩ (fun H locs hP hD hS => ?_)
          obtain ⟨hi20016, hF⟩ := hF
          refine va_iald hx hb hK hP 1 0 rfl rfl hi20016 dX4_exits_74 ?_
          refine lv_iconst (v := 1) hx hb dX4_exits_75 (by decide) ?_
          refine lv_icmp_ne (tgt := 103) hx hb dX4_exits_76 (by decide) (fun c20017 => ?_) (fun c20017 => ?_)
          · rw [if_neg c20017] at hR hF
            refine lv_iinc (v := y3 + 1) (lv' := [(3, .int (y3 + 1)), (4, .int (-((g (fx4_entry y3 1).toNatClampNeg) - (g 11)))), (1, .int y1), (2, .int y2), (0, .ref (am 0))]) hx hb dX4_exits_103 hl (k := 3) rfl rfl (by decide) rfl (fun ls hl => ?_)
            refine lv_goto (tgt := 19) hx hb dX4_exits_106 (by decide) ?_
            exact ih19 y1 y2 (y3 + 1) g _ _ ls hR hF hP hD hS (lv_sub hl [2, 3, 0, 4] rfl)
          · rw [if_pos c20017] at hR hF
            refine lv_aload_n hx hb dX4_exits_79 rfl (lv_at hl 4 rfl) ?_
            refine va_get (D := D) (ci := 4) (v := .ref (am 1)) (C := RX4) (T := TX4) (N := 8) hx hb hts hinX4 hown hK hP 0 rfl rfl 0 (by decide) q1 (fun _ h9 => h9) rfl dX4_exits_80 ?_
            refine lv_iload_n hx hb dX4_exits_83 rfl (lv_at hl 3 rfl) ?_
            refine lv_iconst (v := 5) hx hb dX4_exits_84 (by decide) ?_
            refine kcsI (As := [.int y3, .int 5]) (rest := [.ref (am 1)]) E.1 (cx4_entry E y3 5) hX (va_cwS 2 hts gX4_exits_X4_entry rfl rfl rfl hdX4_entry.2 ⟨Nat.le_of_ble_eq_true rfl, Nat.le_of_ble_eq_true rfl⟩) hKs hP hD hS hA _ _ (kw_nil _) (kw_nil _).symm rfl rfl hl.1 (Nat.le_of_ble_eq_true rfl) dX4_exits_85 ⟨Nat.zero_le _, Nat.zero_le _⟩ (fun H locs hP hD hS => ?_)
            obtain ⟨hi20018, hF⟩ := hF
            refine va_iald hx hb hK hP 1 0 rfl rfl hi20018 dX4_exits_88 ?_
            refine lv_if_ne (tgt := 103) hx hb dX4_exits_89 (by decide) (fun c20019 => ?_) (fun c20019 => ?_)
            · rw [if_neg c20019] at hR hF
              refine lv_iinc (v := y3 + 1) (lv' := [(3, .int (y3 + 1)), (4, .int (-((g (fx4_entry y3 1).toNatClampNeg) - (g 11)))), (1, .int y1), (2, .int y2), (0, .ref (am 0))]) hx hb dX4_exits_103 hl (k := 3) rfl rfl (by decide) rfl (fun ls hl => ?_)
              refine lv_goto (tgt := 19) hx hb dX4_exits_106 (by decide) ?_
              exact ih19 y1 y2 (y3 + 1) g _ _ ls hR hF hP hD hS (lv_sub hl [2, 3, 0, 4] rfl)
            · rw [if_pos c20019] at hR hF
              refine lv_iload hx hb dX4_exits_92 (lv_at hl 0 rfl) ?_
              refine lv_iload_n hx hb dX4_exits_94 rfl (lv_at hl 2 rfl) ?_
              refine lv_icmp_ge (tgt := 103) hx hb dX4_exits_95 (by decide) (fun c20020 => ?_) (fun c20020 => ?_)
              · rw [if_pos c20020] at hR hF
                refine lv_iinc (v := y3 + 1) (lv' := [(3, .int (y3 + 1)), (4, .int (-((g (fx4_entry y3 1).toNatClampNeg) - (g 11)))), (1, .int y1), (2, .int y2), (0, .ref (am 0))]) hx hb dX4_exits_103 hl (k := 3) rfl rfl (by decide) rfl (fun ls hl => ?_)
                refine lv_goto (tgt := 19) hx hb dX4_exits_106 (by decide) ?_
                exact ih19 y1 y2 (y3 + 1) g _ _ ls hR hF hP hD hS (lv_sub hl [2, 3, 0, 4] rfl)
              · rw [if_neg c20020] at hR hF
                refine lv_iload hx hb dX4_exits_98 (lv_at hl 0 rfl) ?_
                refine lv_istore_n (lv' := [(2, .int (-((g (fx4_entry y3 1).toNatClampNeg) - (g 11)))), (4, .int (-((g (fx4_entry y3 1).toNatClampNeg) - (g 11)))), (1, .int y1), (3, .int y3), (0, .ref (am 0))]) hx hb dX4_exits_100 rfl hl (by decide) rfl (fun ls hl => ?_)
                refine lv_iload_n hx hb dX4_exits_101 rfl (lv_at hl 3 rfl) ?_
                refine lv_istore_n (lv' := [(1, .int y3), (2, .int (-((g (fx4_entry y3 1).toNatClampNeg) - (g 11)))), (4, .int (-((g (fx4_entry y3 1).toNatClampNeg) - (g 11)))), (3, .int y3), (0, .ref (am 0))]) hx hb dX4_exits_102 rfl hl (by decide) rfl (fun ls hl => ?_)
                refine lv_iinc (v := y3 + 1) (lv' := [(3, .int (y3 + 1)), (1, .int y3), (2, .int (-((g (fx4_entry y3 1).toNatClampNeg) - (g 11)))), (4, .int (-((g (fx4_entry y3 1).toNatClampNeg) - (g 11)))), (0, .ref (am 0))]) hx hb dX4_exits_103 hl (k := 3) rfl rfl (by decide) rfl (fun ls hl => ?_)
                refine lv_goto (tgt := 19) hx hb dX4_exits_106 (by decide) ?_
                exact ih19 y3 (-((g (fx4_entry y3 1).toNatClampNeg) - (g 11))) (y3 + 1) g _ _ ls hR hF hP hD hS (lv_sub hl [1, 2, 0, 4] rfl)
  exact loop19 kfu (-1) ((g1 5) + 1) 0 g1 _ _ ls hR hF hP hD hS (lv_sub hl [2, 1, 0, 3] rfl)

theorem hdX4_pulses : yX4_pulses.cls = RX4 ∧ yX4_pulses.cls ≠ "java/lang/invoke/MethodHandle" ∧ yX4_pulses.cls ≠ "java/lang/invoke/VarHandle" ∧ (parseMethodDescriptor yX4_pulses.desc).map (fun d => d.parameters.length) = some 0 := by decide +kernel
def fx4_pulses_L100 : Nat → Int32 → Int32 → (Nat → Int32) → (Nat → Int32)
  | 0, _, _, g => g
  | n100 + 1, y1, y2, g => (if (g 36) ≤ y2 then g else (if (g (fx4_thing y2 1).toNatClampNeg) = (g 11) then (bnd (fx4_drops g 36 37 4 y2) (fun g101004 => (bnd (fx4_exits g101004) (fun g101005 => fx4_pulses_L100 n100 y1 y2 g101005)))) else fx4_pulses_L100 n100 y1 (y2 + 1) g))
def sx4_pulses_L100 : Nat → Int32 → Int32 → (Nat → Int32) → Prop
  | 0, _, _, _ => False
  | n100 + 1, y1, y2, g => (if (g 36) ≤ y2 then True else (vp_in (fx4_thing y2 1) 1203 ∧ (if (g (fx4_thing y2 1).toNatClampNeg) = (g 11) then (sx4_drops g 36 37 4 y2 ∧ (bnd (fx4_drops g 36 37 4 y2) (fun g101004 => (sx4_exits g101004 ∧ (bnd (fx4_exits g101004) (fun g101005 => sx4_pulses_L100 n100 y1 y2 g101005)))))) else sx4_pulses_L100 n100 y1 (y2 + 1) g)))
def fx4_pulses_L68 : Nat → Int32 → (Nat → Int32) → (Nat → Int32)
  | 0, _, g => g
  | n68 + 1, y1, g => (if (g 117) ≤ y1 then fx4_pulses_L100 kfu y1 0 g else (bnd (fx4_acts g y1) (fun u69002 => (if u69002.1 = 0 then fx4_pulses_L68 n68 (y1 + 0) u69002.2 else fx4_pulses_L68 n68 (y1 + 1) u69002.2))))
def sx4_pulses_L68 : Nat → Int32 → (Nat → Int32) → Prop
  | 0, _, _ => False
  | n68 + 1, y1, g => (if (g 117) ≤ y1 then sx4_pulses_L100 kfu y1 0 g else (sx4_acts g y1 ∧ (bnd (fx4_acts g y1) (fun u69002 => (if u69002.1 = 0 then sx4_pulses_L68 n68 (y1 + 0) u69002.2 else sx4_pulses_L68 n68 (y1 + 1) u69002.2)))))
def fx4_pulses_L35 : Nat → Int32 → (Nat → Int32) → (Nat → Int32)
  | 0, _, g => g
  | n35 + 1, y1, g => (if (g 117) ≤ y1 then fx4_pulses_L68 kfu 0 g else (bnd (upd g (fx4_entry y1 1).toNatClampNeg ((g (fx4_entry y1 1).toNatClampNeg) + 1)) (fun g36004 => fx4_pulses_L35 n35 (y1 + 1) g36004)))
def sx4_pulses_L35 : Nat → Int32 → (Nat → Int32) → Prop
  | 0, _, _ => False
  | n35 + 1, y1, g => (if (g 117) ≤ y1 then sx4_pulses_L68 kfu 0 g else (vp_in (fx4_entry y1 1) 1203 ∧ (vp_in (fx4_entry y1 1) 1203 ∧ (bnd (upd g (fx4_entry y1 1).toNatClampNeg ((g (fx4_entry y1 1).toNatClampNeg) + 1)) (fun g36004 => sx4_pulses_L35 n35 (y1 + 1) g36004)))))
def fx4_pulses_L2 : Nat → Int32 → (Nat → Int32) → (Nat → Int32)
  | 0, _, g => g
  | n2 + 1, y1, g => (if (g 36) ≤ y1 then fx4_pulses_L35 kfu 0 g else (bnd (upd g (fx4_thing y1 1).toNatClampNeg ((g (fx4_thing y1 1).toNatClampNeg) + 1)) (fun g3004 => fx4_pulses_L2 n2 (y1 + 1) g3004)))
def sx4_pulses_L2 : Nat → Int32 → (Nat → Int32) → Prop
  | 0, _, _ => False
  | n2 + 1, y1, g => (if (g 36) ≤ y1 then sx4_pulses_L35 kfu 0 g else (vp_in (fx4_thing y1 1) 1203 ∧ (vp_in (fx4_thing y1 1) 1203 ∧ (bnd (upd g (fx4_thing y1 1).toNatClampNeg ((g (fx4_thing y1 1).toNatClampNeg) + 1)) (fun g3004 => sx4_pulses_L2 n2 (y1 + 1) g3004)))))
def fx4_pulses (g : (Nat → Int32)) : (Nat → Int32) := fx4_pulses_L2 kfu 0 g
def sx4_pulses (g : (Nat → Int32)) : Prop := sx4_pulses_L2 kfu 0 g
set_option maxHeartbeats 4000000 in
set_option maxRecDepth 100000 in
theorem cx4_pulses {l : Launch} {D : va_G} {cI cB cS cJ : ClassId} {K : State → Prop} (E : kE D cI cB cS cJ K) (am : Nat → Nat) (sv rf ln : Int32) (hs : Int64) (g : (Nat → Int32)) (hF : sx4_pulses g) : kV l D K yX4_pulses wsX4_pulses 4 93 [.ref (am 0)] (mnW cI am sv rf ln hs g)  (mnW cI am sv rf ln hs (fx4_pulses g)) := by
  refine kV_of (own := RX4) (cc := cX4_pulses) (maxL := 3) (tys := kty cI cB cS cJ) (fun U h => (E.2 U h).1) (by decide) rfl rfl (Nat.le_of_ble_eq_true rfl) ?_
  intro p e s m below meth c A ls hx hb hr hml hts hown hlk hKs hK hP hD hA hS hl
  have hl : lv_has ls 3 [(0, .ref (am 0))] := hl
  have hX : CallFix p m c cX4_pulses 3 s _ wsX4_pulses RX4 := ⟨hx, hb, hml, hown, hts⟩
  have hinX4 : ∀ w ∈ wsX40, w ∈ wsX4_pulses := fun w h => List.mem_cons_of_mem _ (List.mem_append_right _ h)
  have q1 := hts (.fieldLink RX4 7 "LabelStationModel" "now" "[I") (List.mem_of_getElem? (i := 1) rfl)
  generalize hR : fx4_pulses g = R
  rw [fx4_pulses] at hR
  rw [sx4_pulses] at hF
  refine lv_iconst (v := 0) hx hb dX4_pulses_0 (by decide) ?_
  refine lv_istore_n (lv' := [(1, .int 0), (0, .ref (am 0))]) hx hb dX4_pulses_1 rfl hl (by decide) rfl (fun ls hl => ?_)
  have loop2 : ∀ (n2 : Nat) (y1 : Int32) (g : (Nat → Int32)) (H : Heap) (locs : List Loc) (ls : Array Slot), fx4_pulses_L2 n2 y1 g = R → sx4_pulses_L2 n2 y1 g → va_P D vwCl (mnW cI am sv rf ln hs g) H → va_D A (mnW cI am sv rf ln hs g) → va_S A s.heap H locs → lv_has ls 3 [(1, .int y1), (0, .ref (am 0))] → W p l e (kRm 4 93) s m ([.ref (am 0)] : List Value).toArray below meth c H locs 0 0 (kQV D below (mnW cI am sv rf ln hs R) A ([.ref (am 0)] : List Value).toArray s) (F0 m 2 ls []) := by
    intro n2
    induction n2 with
    | zero => intro y1 g H locs ls hR hF; exact hF.elim
    | succ n2 ih2 =>
      intro y1 g H locs ls hR hF hP hD hS hl
      rw [fx4_pulses_L2] at hR
      rw [sx4_pulses_L2] at hF
      refine lv_iload_n hx hb dX4_pulses_2 rfl (lv_at hl 0 rfl) ?_
      refine lv_aload_n hx hb dX4_pulses_3 rfl (lv_at hl 1 rfl) ?_
      refine va_get (D := D) (ci := 4) (v := .ref (am 1)) (C := RX4) (T := TX4) (N := 8) hx hb hts hinX4 hown hK hP 0 rfl rfl 0 (by decide) q1 (fun _ h9 => h9) rfl dX4_pulses_4 ?_
      refine lv_bipush (v := 36) hx hb dX4_pulses_7 (by decide) ?_
      refine va_iald hx hb hK hP 1 0 rfl rfl (kin_lit (j := 36) (n := 1203) (by decide) (by decide)) dX4_pulses_9 ?_
      refine kw_top (v := .int (g 36)) rfl ?_
      refine lv_icmp_ge (tgt := 33) hx hb dX4_pulses_10 (by decide) (fun c3001 => ?_) (fun c3001 => ?_)
      · rw [if_pos c3001] at hR hF
        refine lv_iconst (v := 0) hx hb dX4_pulses_33 (by decide) ?_
        refine lv_istore_n (lv' := [(1, .int 0), (0, .ref (am 0))]) hx hb dX4_pulses_34 rfl hl (by decide) rfl (fun ls hl => ?_)
        have loop35 : ∀ (n35 : Nat) (y1 : Int32) (g : (Nat → Int32)) (H : Heap) (locs : List Loc) (ls : Array Slot), fx4_pulses_L35 n35 y1 g = R → sx4_pulses_L35 n35 y1 g → va_P D vwCl (mnW cI am sv rf ln hs g) H → va_D A (mnW cI am sv rf ln hs g) → va_S A s.heap H locs → lv_has ls 3 [(1, .int y1), (0, .ref (am 0))] → W p l e (kRm 4 93) s m ([.ref (am 0)] : List Value).toArray below meth c H locs 0 0 (kQV D below (mnW cI am sv rf ln hs R) A ([.ref (am 0)] : List Value).toArray s) (F0 m 35 ls []) := by
          intro n35
          induction n35 with
          | zero => intro y1 g H locs ls hR hF; exact hF.elim
          | succ n35 ih35 =>
            intro y1 g H locs ls hR hF hP hD hS hl
            rw [fx4_pulses_L35] at hR
            rw [sx4_pulses_L35] at hF
            refine lv_iload_n hx hb dX4_pulses_35 rfl (lv_at hl 0 rfl) ?_
            refine lv_aload_n hx hb dX4_pulses_36 rfl (lv_at hl 1 rfl) ?_
            refine va_get (D := D) (ci := 4) (v := .ref (am 1)) (C := RX4) (T := TX4) (N := 8) hx hb hts hinX4 hown hK hP 0 rfl rfl 0 (by decide) q1 (fun _ h9 => h9) rfl dX4_pulses_37 ?_
            refine lv_bipush (v := 117) hx hb dX4_pulses_40 (by decide) ?_
            refine va_iald hx hb hK hP 1 0 rfl rfl (kin_lit (j := 117) (n := 1203) (by decide) (by decide)) dX4_pulses_42 ?_
            refine kw_top (v := .int (g 117)) rfl ?_
            refine lv_icmp_ge (tgt := 66) hx hb dX4_pulses_43 (by decide) (fun c36001 => ?_) (fun c36001 => ?_)
            · rw [if_pos c36001] at hR hF
              refine lv_iconst (v := 0) hx hb dX4_pulses_66 (by decide) ?_
              refine lv_istore_n (lv' := [(1, .int 0), (0, .ref (am 0))]) hx hb dX4_pulses_67 rfl hl (by decide) rfl (fun ls hl => ?_)
              have loop68 : ∀ (n68 : Nat) (y1 : Int32) (g : (Nat → Int32)) (H : Heap) (locs : List Loc) (ls : Array Slot), fx4_pulses_L68 n68 y1 g = R → sx4_pulses_L68 n68 y1 g → va_P D vwCl (mnW cI am sv rf ln hs g) H → va_D A (mnW cI am sv rf ln hs g) → va_S A s.heap H locs → lv_has ls 3 [(1, .int y1), (0, .ref (am 0))] → W p l e (kRm 4 93) s m ([.ref (am 0)] : List Value).toArray below meth c H locs 0 0 (kQV D below (mnW cI am sv rf ln hs R) A ([.ref (am 0)] : List Value).toArray s) (F0 m 68 ls []) := by
                intro n68
                induction n68 with
                | zero => intro y1 g H locs ls hR hF; exact hF.elim
                | succ n68 ih68 =>
                  intro y1 g H locs ls hR hF hP hD hS hl
                  rw [fx4_pulses_L68] at hR
                  rw [sx4_pulses_L68] at hF
                  refine lv_iload_n hx hb dX4_pulses_68 rfl (lv_at hl 0 rfl) ?_
                  refine lv_aload_n hx hb dX4_pulses_69 rfl (lv_at hl 1 rfl) ?_
                  refine va_get (D := D) (ci := 4) (v := .ref (am 1)) (C := RX4) (T := TX4) (N := 8) hx hb hts hinX4 hown hK hP 0 rfl rfl 0 (by decide) q1 (fun _ h9 => h9) rfl dX4_pulses_70 ?_
                  refine lv_bipush (v := 117) hx hb dX4_pulses_73 (by decide) ?_
                  refine va_iald hx hb hK hP 1 0 rfl rfl (kin_lit (j := 117) (n := 1203) (by decide) (by decide)) dX4_pulses_75 ?_
                  refine kw_top (v := .int (g 117)) rfl ?_
                  refine lv_icmp_ge (tgt := 98) hx hb dX4_pulses_76 (by decide) (fun c69001 => ?_) (fun c69001 => ?_)
                  · rw [if_pos c69001] at hR hF
                    refine lv_iconst (v := 0) hx hb dX4_pulses_98 (by decide) ?_
                    refine lv_istore_n (lv' := [(2, .int 0), (1, .int y1), (0, .ref (am 0))]) hx hb dX4_pulses_99 rfl hl (by decide) rfl (fun ls hl => ?_)
                    have loop100 : ∀ (n100 : Nat) (y1 : Int32) (y2 : Int32) (g : (Nat → Int32)) (H : Heap) (locs : List Loc) (ls : Array Slot), fx4_pulses_L100 n100 y1 y2 g = R → sx4_pulses_L100 n100 y1 y2 g → va_P D vwCl (mnW cI am sv rf ln hs g) H → va_D A (mnW cI am sv rf ln hs g) → va_S A s.heap H locs → lv_has ls 3 [(1, .int y1), (2, .int y2), (0, .ref (am 0))] → W p l e (kRm 4 93) s m ([.ref (am 0)] : List Value).toArray below meth c H locs 0 0 (kQV D below (mnW cI am sv rf ln hs R) A ([.ref (am 0)] : List Value).toArray s) (F0 m 100 ls []) := by
                      intro n100
                      induction n100 with
                      | zero => intro y1 y2 g H locs ls hR hF; exact hF.elim
                      | succ n100 ih100 =>
                        intro y1 y2 g H locs ls hR hF hP hD hS hl
                        rw [fx4_pulses_L100] at hR
                        rw [sx4_pulses_L100] at hF
                        refine lv_iload_n hx hb dX4_pulses_100 rfl (lv_at hl 1 rfl) ?_
                        refine lv_aload_n hx hb dX4_pulses_101 rfl (lv_at hl 2 rfl) ?_
                        refine va_get (D := D) (ci := 4) (v := .ref (am 1)) (C := RX4) (T := TX4) (N := 8) hx hb hts hinX4 hown hK hP 0 rfl rfl 0 (by decide) q1 (fun _ h9 => h9) rfl dX4_pulses_102 ?_
                        refine lv_bipush (v := 36) hx hb dX4_pulses_105 (by decide) ?_
                        refine va_iald hx hb hK hP 1 0 rfl rfl (kin_lit (j := 36) (n := 1203) (by decide) (by decide)) dX4_pulses_107 ?_
                        refine kw_top (v := .int (g 36)) rfl ?_
                        refine lv_icmp_ge (tgt := 154) hx hb dX4_pulses_108 (by decide) (fun c101001 => ?_) (fun c101001 => ?_)
                        · rw [if_pos c101001] at hR hF
                          subst hR
                          exact krV hx hb hr hlk hP hD hS dX4_pulses_154 rfl
                        · rw [if_neg c101001] at hR hF
                          refine lv_aload_n hx hb dX4_pulses_111 rfl (lv_at hl 2 rfl) ?_
                          refine va_get (D := D) (ci := 4) (v := .ref (am 1)) (C := RX4) (T := TX4) (N := 8) hx hb hts hinX4 hown hK hP 0 rfl rfl 0 (by decide) q1 (fun _ h9 => h9) rfl dX4_pulses_112 ?_
                          refine lv_iload_n hx hb dX4_pulses_115 rfl (lv_at hl 1 rfl) ?_
                          refine lv_iconst (v := 1) hx hb dX4_pulses_116 (by decide) ?_
                          refine kcsI (As := [.int y2, .int 1]) (rest := [.ref (am 1)]) E.1 (cx4_thing E y2 1) hX (va_cwS 2 hts gX4_pulses_X4_thing rfl rfl rfl hdX4_thing.2 ⟨Nat.le_of_ble_eq_true rfl, Nat.le_of_ble_eq_true rfl⟩) hKs hP hD hS hA _ _ (kw_nil _) (kw_nil _).symm rfl rfl hl.1 (Nat.le_of_ble_eq_true rfl) dX4_pulses_117 ⟨Nat.zero_le _, Nat.zero_le _⟩ (fun H locs hP hD hS => ?_)
                          obtain ⟨hi101002, hF⟩ := hF
                          refine va_iald hx hb hK hP 1 0 rfl rfl hi101002 dX4_pulses_120 ?_
                          refine lv_aload_n hx hb dX4_pulses_121 rfl (lv_at hl 2 rfl) ?_
                          refine va_get (D := D) (ci := 4) (v := .ref (am 1)) (C := RX4) (T := TX4) (N := 8) hx hb hts hinX4 hown hK hP 0 rfl rfl 0 (by decide) q1 (fun _ h9 => h9) rfl dX4_pulses_122 ?_
                          refine lv_bipush (v := 11) hx hb dX4_pulses_125 (by decide) ?_
                          refine va_iald hx hb hK hP 1 0 rfl rfl (kin_lit (j := 11) (n := 1203) (by decide) (by decide)) dX4_pulses_127 ?_
                          refine kw_top (v := .int (g 11)) rfl ?_
                          refine lv_icmp_ne (tgt := 148) hx hb dX4_pulses_128 (by decide) (fun c101003 => ?_) (fun c101003 => ?_)
                          · rw [if_neg c101003] at hR hF
                            refine lv_iinc (v := y2 + 1) (lv' := [(2, .int (y2 + 1)), (1, .int y1), (0, .ref (am 0))]) hx hb dX4_pulses_148 hl (k := 1) rfl rfl (by decide) rfl (fun ls hl => ?_)
                            refine lv_goto (tgt := 100) hx hb dX4_pulses_151 (by decide) ?_
                            exact ih100 y1 (y2 + 1) g _ _ ls hR hF hP hD hS (lv_sub hl [1, 0, 2] rfl)
                          · rw [if_pos c101003] at hR hF
                            refine lv_aload_n hx hb dX4_pulses_131 rfl (lv_at hl 2 rfl) ?_
                            refine lv_bipush (v := 36) hx hb dX4_pulses_132 (by decide) ?_
                            refine lv_bipush (v := 37) hx hb dX4_pulses_134 (by decide) ?_
                            refine lv_iconst (v := 4) hx hb dX4_pulses_136 (by decide) ?_
                            refine lv_iload_n hx hb dX4_pulses_137 rfl (lv_at hl 1 rfl) ?_
                            obtain ⟨hs101007, hF⟩ := hF
                            refine kcV (ci := 4) (q0 := 0) (As := [.int 36, .int 37, .int 4, .int y2]) (rest := []) E.1 (cx4_drops E am sv rf ln hs g 36 37 4 y2 hs101007) hX (cwV 4 hts gX4_pulses_X4_drops rfl rfl rfl hdX4_drops ⟨Nat.le_of_ble_eq_true rfl, Nat.le_of_ble_eq_true rfl⟩) hKs hK hP hD hS hA _ _ (kw_self _) (kw_self _).symm rfl rfl rfl rfl hl.1 (Nat.le_of_ble_eq_true rfl) dX4_pulses_138 ⟨Nat.zero_le _, Nat.zero_le _⟩ (fun H locs hP hD hS => ?_)
                            have hP : va_P D vwCl (mnW cI am sv rf ln hs (fx4_drops g 36 37 4 y2)) H := hP
                            have hD : va_D A (mnW cI am sv rf ln hs (fx4_drops g 36 37 4 y2)) := hD
                            generalize eg101004 : fx4_drops g 36 37 4 y2 = g101004 at hR hF hP hD
                            replace hR := bnd_e hR
                            replace hF := bnd_p hF
                            refine lv_aload_n hx hb dX4_pulses_141 rfl (lv_at hl 2 rfl) ?_
                            obtain ⟨hs101006, hF⟩ := hF
                            refine kcV (ci := 4) (q0 := 0) (As := []) (rest := []) E.1 (cx4_exits E am sv rf ln hs g101004 hs101006) hX (cwV 0 hts gX4_pulses_X4_exits rfl rfl rfl hdX4_exits ⟨Nat.le_of_ble_eq_true rfl, Nat.le_of_ble_eq_true rfl⟩) hKs hK hP hD hS hA _ _ (kw_self _) (kw_self _).symm rfl rfl rfl rfl hl.1 (Nat.le_of_ble_eq_true rfl) dX4_pulses_142 ⟨Nat.zero_le _, Nat.zero_le _⟩ (fun H locs hP hD hS => ?_)
                            have hP : va_P D vwCl (mnW cI am sv rf ln hs (fx4_exits g101004)) H := hP
                            have hD : va_D A (mnW cI am sv rf ln hs (fx4_exits g101004)) := hD
                            generalize eg101005 : fx4_exits g101004 = g101005 at hR hF hP hD
                            replace hR := bnd_e hR
                            replace hF := bnd_p hF
                            refine lv_goto (tgt := 100) hx hb dX4_pulses_145 (by decide) ?_
                            exact ih100 y1 y2 g101005 _ _ ls hR hF hP hD hS (lv_sub hl [0, 1, 2] rfl)
                    exact loop100 kfu y1 0 g _ _ ls hR hF hP hD hS (lv_sub hl [1, 0, 2] rfl)
                  · rw [if_neg c69001] at hR hF
                    refine lv_iload_n hx hb dX4_pulses_79 rfl (lv_at hl 0 rfl) ?_
                    refine lv_aload_n hx hb dX4_pulses_80 rfl (lv_at hl 1 rfl) ?_
                    refine lv_iload_n hx hb dX4_pulses_81 rfl (lv_at hl 0 rfl) ?_
                    obtain ⟨hs69004, hF⟩ := hF
                    refine kcI (ci := 4) (q0 := 0) (As := [.int y1]) (rest := [.int y1]) E.1 (cx4_acts E am sv rf ln hs g y1 hs69004) hX (cwV 1 hts gX4_pulses_X4_acts rfl rfl rfl hdX4_acts ⟨Nat.le_of_ble_eq_true rfl, Nat.le_of_ble_eq_true rfl⟩) hKs hK hP hD hS hA _ _ (kw_self _) (kw_self _).symm rfl rfl rfl rfl hl.1 (Nat.le_of_ble_eq_true rfl) dX4_pulses_82 ⟨Nat.zero_le _, Nat.zero_le _⟩ (fun H locs hP hD hS => ?_)
                    have hP : va_P D vwCl (mnW cI am sv rf ln hs ((fx4_acts g y1).2)) H := hP
                    have hD : va_D A (mnW cI am sv rf ln hs ((fx4_acts g y1).2)) := hD
                    generalize eu69002 : fx4_acts g y1 = u69002 at hR hF hP hD ⊢
                    replace hR := bnd_e hR
                    replace hF := bnd_p hF
                    refine lv_if_eq (tgt := 92) hx hb dX4_pulses_85 (by decide) (fun c69003 => ?_) (fun c69003 => ?_)
                    · rw [if_pos c69003] at hR hF
                      refine lv_iconst (v := 0) hx hb dX4_pulses_92 (by decide) ?_
                      refine lv_iadd hx hb dX4_pulses_93 ?_
                      refine lv_istore_n (lv' := [(1, .int (y1 + 0)), (0, .ref (am 0))]) hx hb dX4_pulses_94 rfl hl (by decide) rfl (fun ls hl => ?_)
                      refine lv_goto (tgt := 68) hx hb dX4_pulses_95 (by decide) ?_
                      exact ih68 (y1 + 0) u69002.2 _ _ ls hR hF hP hD hS (lv_sub hl [0, 1] rfl)
                    · rw [if_neg c69003] at hR hF
                      refine lv_iconst (v := 1) hx hb dX4_pulses_88 (by decide) ?_
                      refine lv_goto (tgt := 93) hx hb dX4_pulses_89 (by decide) ?_
                      refine lv_iadd hx hb dX4_pulses_93 ?_
                      refine lv_istore_n (lv' := [(1, .int (y1 + 1)), (0, .ref (am 0))]) hx hb dX4_pulses_94 rfl hl (by decide) rfl (fun ls hl => ?_)
                      refine lv_goto (tgt := 68) hx hb dX4_pulses_95 (by decide) ?_
                      exact ih68 (y1 + 1) u69002.2 _ _ ls hR hF hP hD hS (lv_sub hl [0, 1] rfl)
              exact loop68 kfu 0 g _ _ ls hR hF hP hD hS (lv_sub hl [0, 1] rfl)
            · rw [if_neg c36001] at hR hF
              refine lv_aload_n hx hb dX4_pulses_46 rfl (lv_at hl 1 rfl) ?_
              refine va_get (D := D) (ci := 4) (v := .ref (am 1)) (C := RX4) (T := TX4) (N := 8) hx hb hts hinX4 hown hK hP 0 rfl rfl 0 (by decide) q1 (fun _ h9 => h9) rfl dX4_pulses_47 ?_
              refine lv_iload_n hx hb dX4_pulses_50 rfl (lv_at hl 0 rfl) ?_
              refine lv_iconst (v := 1) hx hb dX4_pulses_51 (by decide) ?_
              refine kcsI (As := [.int y1, .int 1]) (rest := [.ref (am 1)]) E.1 (cx4_entry E y1 1) hX (va_cwS 2 hts gX4_pulses_X4_entry rfl rfl rfl hdX4_entry.2 ⟨Nat.le_of_ble_eq_true rfl, Nat.le_of_ble_eq_true rfl⟩) hKs hP hD hS hA _ _ (kw_nil _) (kw_nil _).symm rfl rfl hl.1 (Nat.le_of_ble_eq_true rfl) dX4_pulses_52 ⟨Nat.zero_le _, Nat.zero_le _⟩ (fun H locs hP hD hS => ?_)
              refine lv_dup2_11 hx hb dX4_pulses_55 rfl rfl ?_
              obtain ⟨hi36002, hF⟩ := hF
              refine va_iald hx hb hK hP 1 0 rfl rfl hi36002 dX4_pulses_56 ?_
              refine lv_iconst (v := 1) hx hb dX4_pulses_57 (by decide) ?_
              refine lv_iadd hx hb dX4_pulses_58 ?_
              obtain ⟨hi36003, hF⟩ := hF
              refine va_iast hx hb hK hP hD hS 1 0 rfl rfl hi36003 dX4_pulses_59 (fun H locs hP hD hS => ?_)
              have hP : va_P D vwCl (mnW cI am sv rf ln hs (upd g (fx4_entry y1 1).toNatClampNeg ((g (fx4_entry y1 1).toNatClampNeg) + 1))) H := hP
              have hD : va_D A (mnW cI am sv rf ln hs (upd g (fx4_entry y1 1).toNatClampNeg ((g (fx4_entry y1 1).toNatClampNeg) + 1))) := hD
              generalize eg36004 : upd g (fx4_entry y1 1).toNatClampNeg ((g (fx4_entry y1 1).toNatClampNeg) + 1) = g36004 at hR hP hD hF
              replace hR := bnd_e hR
              replace hF := bnd_p hF
              refine lv_iinc (v := y1 + 1) (lv' := [(1, .int (y1 + 1)), (0, .ref (am 0))]) hx hb dX4_pulses_60 hl (k := 0) rfl rfl (by decide) rfl (fun ls hl => ?_)
              refine lv_goto (tgt := 35) hx hb dX4_pulses_63 (by decide) ?_
              exact ih35 (y1 + 1) g36004 _ _ ls hR hF hP hD hS (lv_sub hl [0, 1] rfl)
        exact loop35 kfu 0 g _ _ ls hR hF hP hD hS (lv_sub hl [0, 1] rfl)
      · rw [if_neg c3001] at hR hF
        refine lv_aload_n hx hb dX4_pulses_13 rfl (lv_at hl 1 rfl) ?_
        refine va_get (D := D) (ci := 4) (v := .ref (am 1)) (C := RX4) (T := TX4) (N := 8) hx hb hts hinX4 hown hK hP 0 rfl rfl 0 (by decide) q1 (fun _ h9 => h9) rfl dX4_pulses_14 ?_
        refine lv_iload_n hx hb dX4_pulses_17 rfl (lv_at hl 0 rfl) ?_
        refine lv_iconst (v := 1) hx hb dX4_pulses_18 (by decide) ?_
        refine kcsI (As := [.int y1, .int 1]) (rest := [.ref (am 1)]) E.1 (cx4_thing E y1 1) hX (va_cwS 2 hts gX4_pulses_X4_thing rfl rfl rfl hdX4_thing.2 ⟨Nat.le_of_ble_eq_true rfl, Nat.le_of_ble_eq_true rfl⟩) hKs hP hD hS hA _ _ (kw_nil _) (kw_nil _).symm rfl rfl hl.1 (Nat.le_of_ble_eq_true rfl) dX4_pulses_19 ⟨Nat.zero_le _, Nat.zero_le _⟩ (fun H locs hP hD hS => ?_)
        refine lv_dup2_11 hx hb dX4_pulses_22 rfl rfl ?_
        obtain ⟨hi3002, hF⟩ := hF
        refine va_iald hx hb hK hP 1 0 rfl rfl hi3002 dX4_pulses_23 ?_
        refine lv_iconst (v := 1) hx hb dX4_pulses_24 (by decide) ?_
        refine lv_iadd hx hb dX4_pulses_25 ?_
        obtain ⟨hi3003, hF⟩ := hF
        refine va_iast hx hb hK hP hD hS 1 0 rfl rfl hi3003 dX4_pulses_26 (fun H locs hP hD hS => ?_)
        have hP : va_P D vwCl (mnW cI am sv rf ln hs (upd g (fx4_thing y1 1).toNatClampNeg ((g (fx4_thing y1 1).toNatClampNeg) + 1))) H := hP
        have hD : va_D A (mnW cI am sv rf ln hs (upd g (fx4_thing y1 1).toNatClampNeg ((g (fx4_thing y1 1).toNatClampNeg) + 1))) := hD
        generalize eg3004 : upd g (fx4_thing y1 1).toNatClampNeg ((g (fx4_thing y1 1).toNatClampNeg) + 1) = g3004 at hR hP hD hF
        replace hR := bnd_e hR
        replace hF := bnd_p hF
        refine lv_iinc (v := y1 + 1) (lv' := [(1, .int (y1 + 1)), (0, .ref (am 0))]) hx hb dX4_pulses_27 hl (k := 0) rfl rfl (by decide) rfl (fun ls hl => ?_)
        refine lv_goto (tgt := 2) hx hb dX4_pulses_30 (by decide) ?_
        exact ih2 (y1 + 1) g3004 _ _ ls hR hF hP hD hS (lv_sub hl [0, 1] rfl)
  exact loop2 kfu 0 g _ _ ls hR hF hP hD hS (lv_sub hl [0, 1] rfl)

theorem hdX4_tickOn : yX4_tickOn.cls = RX4 ∧ yX4_tickOn.cls ≠ "java/lang/invoke/MethodHandle" ∧ yX4_tickOn.cls ≠ "java/lang/invoke/VarHandle" ∧ (parseMethodDescriptor yX4_tickOn.desc).map (fun d => d.parameters.length) = some 0 := by decide +kernel
def fx4_tickOn_L21 : Nat → Int32 → (Nat → Int32) → (Nat → Int32)
  | 0, _, g => g
  | n21 + 1, y1, g => (if (g 0) ≤ y1 then g else (if (g 15) = 1 then (bnd (fx4_pulses g) (fun g22003 => fx4_tickOn_L21 n21 (y1 + 1) g22003)) else g))
def sx4_tickOn_L21 : Nat → Int32 → (Nat → Int32) → Prop
  | 0, _, _ => False
  | n21 + 1, y1, g => (if (g 0) ≤ y1 then True else (if (g 15) = 1 then (sx4_pulses g ∧ (bnd (fx4_pulses g) (fun g22003 => sx4_tickOn_L21 n21 (y1 + 1) g22003))) else True))
def fx4_tickOn (g : (Nat → Int32)) : (Nat → Int32) := (bnd (upd g 14 ((g 14) + 1)) (fun g1 => (bnd (fx4_delivers g1) (fun g2 => (bnd (fx4_arrives g2) (fun g3 => fx4_tickOn_L21 kfu 0 g3))))))
def sx4_tickOn (g : (Nat → Int32)) : Prop := (bnd (upd g 14 ((g 14) + 1)) (fun g1 => (sx4_delivers g1 ∧ (bnd (fx4_delivers g1) (fun g2 => (sx4_arrives g2 ∧ (bnd (fx4_arrives g2) (fun g3 => sx4_tickOn_L21 kfu 0 g3))))))))
set_option maxHeartbeats 4000000 in
set_option maxRecDepth 100000 in
theorem cx4_tickOn {l : Launch} {D : va_G} {cI cB cS cJ : ClassId} {K : State → Prop} (E : kE D cI cB cS cJ K) (am : Nat → Nat) (sv rf ln : Int32) (hs : Int64) (g : (Nat → Int32)) (hF : sx4_tickOn g) : kV l D K yX4_tickOn wsX4_tickOn 5 115 [.ref (am 0)] (mnW cI am sv rf ln hs g)  (mnW cI am sv rf ln hs (fx4_tickOn g)) := by
  refine kV_of (own := RX4) (cc := cX4_tickOn) (maxL := 2) (tys := kty cI cB cS cJ) (fun U h => (E.2 U h).1) (by decide) rfl rfl (Nat.le_of_ble_eq_true rfl) ?_
  intro p e s m below meth c A ls hx hb hr hml hts hown hlk hKs hK hP hD hA hS hl
  have hl : lv_has ls 2 [(0, .ref (am 0))] := hl
  have hX : CallFix p m c cX4_tickOn 2 s _ wsX4_tickOn RX4 := ⟨hx, hb, hml, hown, hts⟩
  have hinX4 : ∀ w ∈ wsX40, w ∈ wsX4_tickOn := fun w h => List.mem_cons_of_mem _ (List.mem_append_right _ h)
  have q1 := hts (.fieldLink RX4 7 "LabelStationModel" "now" "[I") (List.mem_of_getElem? (i := 1) rfl)
  generalize hR : fx4_tickOn g = R
  rw [fx4_tickOn] at hR
  rw [sx4_tickOn] at hF
  refine lv_aload_n hx hb dX4_tickOn_0 rfl (lv_at hl 0 rfl) ?_
  refine va_get (D := D) (ci := 4) (v := .ref (am 1)) (C := RX4) (T := TX4) (N := 8) hx hb hts hinX4 hown hK hP 0 rfl rfl 0 (by decide) q1 (fun _ h9 => h9) rfl dX4_tickOn_1 ?_
  refine lv_bipush (v := 14) hx hb dX4_tickOn_4 (by decide) ?_
  refine lv_dup2_11 hx hb dX4_tickOn_6 rfl rfl ?_
  refine va_iald hx hb hK hP 1 0 rfl rfl (kin_lit (j := 14) (n := 1203) (by decide) (by decide)) dX4_tickOn_7 ?_
  refine kw_top (v := .int (g 14)) rfl ?_
  refine lv_iconst (v := 1) hx hb dX4_tickOn_8 (by decide) ?_
  refine lv_iadd hx hb dX4_tickOn_9 ?_
  refine va_iast hx hb hK hP hD hS 1 0 rfl rfl (kin_lit (j := 14) (n := 1203) (by decide) (by decide)) dX4_tickOn_10 (fun H locs hP hD hS => ?_)
  have hP : va_P D vwCl (mnW cI am sv rf ln hs (upd g 14 ((g 14) + 1))) H := hP
  have hD : va_D A (mnW cI am sv rf ln hs (upd g 14 ((g 14) + 1))) := hD
  generalize eg1 : upd g 14 ((g 14) + 1) = g1 at hR hP hD hF
  replace hR := bnd_e hR
  replace hF := bnd_p hF
  refine lv_aload_n hx hb dX4_tickOn_11 rfl (lv_at hl 0 rfl) ?_
  obtain ⟨hs5, hF⟩ := hF
  refine kcV (ci := 4) (q0 := 0) (As := []) (rest := []) E.1 (cx4_delivers E am sv rf ln hs g1 hs5) hX (cwV 0 hts gX4_tickOn_X4_delivers rfl rfl rfl hdX4_delivers ⟨Nat.le_of_ble_eq_true rfl, Nat.le_of_ble_eq_true rfl⟩) hKs hK hP hD hS hA _ _ (kw_self _) (kw_self _).symm rfl rfl rfl rfl hl.1 (Nat.le_of_ble_eq_true rfl) dX4_tickOn_12 ⟨Nat.zero_le _, Nat.zero_le _⟩ (fun H locs hP hD hS => ?_)
  have hP : va_P D vwCl (mnW cI am sv rf ln hs (fx4_delivers g1)) H := hP
  have hD : va_D A (mnW cI am sv rf ln hs (fx4_delivers g1)) := hD
  generalize eg2 : fx4_delivers g1 = g2 at hR hF hP hD
  replace hR := bnd_e hR
  replace hF := bnd_p hF
  refine lv_aload_n hx hb dX4_tickOn_15 rfl (lv_at hl 0 rfl) ?_
  obtain ⟨hs4, hF⟩ := hF
  refine kcV (ci := 4) (q0 := 0) (As := []) (rest := []) E.1 (cx4_arrives E am sv rf ln hs g2 hs4) hX (cwV 0 hts gX4_tickOn_X4_arrives rfl rfl rfl hdX4_arrives ⟨Nat.le_of_ble_eq_true rfl, Nat.le_of_ble_eq_true rfl⟩) hKs hK hP hD hS hA _ _ (kw_self _) (kw_self _).symm rfl rfl rfl rfl hl.1 (Nat.le_of_ble_eq_true rfl) dX4_tickOn_16 ⟨Nat.zero_le _, Nat.zero_le _⟩ (fun H locs hP hD hS => ?_)
  have hP : va_P D vwCl (mnW cI am sv rf ln hs (fx4_arrives g2)) H := hP
  have hD : va_D A (mnW cI am sv rf ln hs (fx4_arrives g2)) := hD
  generalize eg3 : fx4_arrives g2 = g3 at hR hF hP hD
  replace hR := bnd_e hR
  replace hF := bnd_p hF
  refine lv_iconst (v := 0) hx hb dX4_tickOn_19 (by decide) ?_
  refine lv_istore_n (lv' := [(1, .int 0), (0, .ref (am 0))]) hx hb dX4_tickOn_20 rfl hl (by decide) rfl (fun ls hl => ?_)
  have loop21 : ∀ (n21 : Nat) (y1 : Int32) (g : (Nat → Int32)) (H : Heap) (locs : List Loc) (ls : Array Slot), fx4_tickOn_L21 n21 y1 g = R → sx4_tickOn_L21 n21 y1 g → va_P D vwCl (mnW cI am sv rf ln hs g) H → va_D A (mnW cI am sv rf ln hs g) → va_S A s.heap H locs → lv_has ls 2 [(1, .int y1), (0, .ref (am 0))] → W p l e (kRm 5 115) s m ([.ref (am 0)] : List Value).toArray below meth c H locs 0 0 (kQV D below (mnW cI am sv rf ln hs R) A ([.ref (am 0)] : List Value).toArray s) (F0 m 21 ls []) := by
    intro n21
    induction n21 with
    | zero => intro y1 g H locs ls hR hF; exact hF.elim
    | succ n21 ih21 =>
      intro y1 g H locs ls hR hF hP hD hS hl
      rw [fx4_tickOn_L21] at hR
      rw [sx4_tickOn_L21] at hF
      refine lv_iload_n hx hb dX4_tickOn_21 rfl (lv_at hl 0 rfl) ?_
      refine lv_aload_n hx hb dX4_tickOn_22 rfl (lv_at hl 1 rfl) ?_
      refine va_get (D := D) (ci := 4) (v := .ref (am 1)) (C := RX4) (T := TX4) (N := 8) hx hb hts hinX4 hown hK hP 0 rfl rfl 0 (by decide) q1 (fun _ h9 => h9) rfl dX4_tickOn_23 ?_
      refine lv_iconst (v := 0) hx hb dX4_tickOn_26 (by decide) ?_
      refine va_iald hx hb hK hP 1 0 rfl rfl (kin_lit (j := 0) (n := 1203) (by decide) (by decide)) dX4_tickOn_27 ?_
      refine kw_top (v := .int (g 0)) rfl ?_
      refine lv_icmp_ge (tgt := 52) hx hb dX4_tickOn_28 (by decide) (fun c22001 => ?_) (fun c22001 => ?_)
      · rw [if_pos c22001] at hR hF
        subst hR
        exact krV hx hb hr hlk hP hD hS dX4_tickOn_52 rfl
      · rw [if_neg c22001] at hR hF
        refine lv_aload_n hx hb dX4_tickOn_31 rfl (lv_at hl 1 rfl) ?_
        refine va_get (D := D) (ci := 4) (v := .ref (am 1)) (C := RX4) (T := TX4) (N := 8) hx hb hts hinX4 hown hK hP 0 rfl rfl 0 (by decide) q1 (fun _ h9 => h9) rfl dX4_tickOn_32 ?_
        refine lv_bipush (v := 15) hx hb dX4_tickOn_35 (by decide) ?_
        refine va_iald hx hb hK hP 1 0 rfl rfl (kin_lit (j := 15) (n := 1203) (by decide) (by decide)) dX4_tickOn_37 ?_
        refine kw_top (v := .int (g 15)) rfl ?_
        refine lv_iconst (v := 1) hx hb dX4_tickOn_38 (by decide) ?_
        refine lv_icmp_ne (tgt := 52) hx hb dX4_tickOn_39 (by decide) (fun c22002 => ?_) (fun c22002 => ?_)
        · rw [if_neg c22002] at hR hF
          subst hR
          exact krV hx hb hr hlk hP hD hS dX4_tickOn_52 rfl
        · rw [if_pos c22002] at hR hF
          refine lv_aload_n hx hb dX4_tickOn_42 rfl (lv_at hl 1 rfl) ?_
          obtain ⟨hs22004, hF⟩ := hF
          refine kcV (ci := 4) (q0 := 0) (As := []) (rest := []) E.1 (cx4_pulses E am sv rf ln hs g hs22004) hX (cwV 0 hts gX4_tickOn_X4_pulses rfl rfl rfl hdX4_pulses ⟨Nat.le_of_ble_eq_true rfl, Nat.le_of_ble_eq_true rfl⟩) hKs hK hP hD hS hA _ _ (kw_self _) (kw_self _).symm rfl rfl rfl rfl hl.1 (Nat.le_of_ble_eq_true rfl) dX4_tickOn_43 ⟨Nat.zero_le _, Nat.zero_le _⟩ (fun H locs hP hD hS => ?_)
          have hP : va_P D vwCl (mnW cI am sv rf ln hs (fx4_pulses g)) H := hP
          have hD : va_D A (mnW cI am sv rf ln hs (fx4_pulses g)) := hD
          generalize eg22003 : fx4_pulses g = g22003 at hR hF hP hD
          replace hR := bnd_e hR
          replace hF := bnd_p hF
          refine lv_iinc (v := y1 + 1) (lv' := [(1, .int (y1 + 1)), (0, .ref (am 0))]) hx hb dX4_tickOn_46 hl (k := 0) rfl rfl (by decide) rfl (fun ls hl => ?_)
          refine lv_goto (tgt := 21) hx hb dX4_tickOn_49 (by decide) ?_
          exact ih21 (y1 + 1) g22003 _ _ ls hR hF hP hD hS (lv_sub hl [0, 1] rfl)
  exact loop21 kfu 0 g3 _ _ ls hR hF hP hD hS (lv_sub hl [0, 1] rfl)

theorem hdX4_runs : yX4_runs.cls = RX4 ∧ yX4_runs.cls ≠ "java/lang/invoke/MethodHandle" ∧ yX4_runs.cls ≠ "java/lang/invoke/VarHandle" ∧ (parseMethodDescriptor yX4_runs.desc).map (fun d => d.parameters.length) = some 1 := by decide +kernel
def fx4_runs_L2 : Nat → Int32 → Int32 → (Nat → Int32) → Int32 × ((Nat → Int32))
  | 0, _, _, g => (0, g)
  | n2 + 1, y1, y2, g => (if y1 ≤ y2 then (g 14, g) else (bnd (fx4_tickOn g) (fun g3002 => fx4_runs_L2 n2 y1 (y2 + 1) g3002)))
def sx4_runs_L2 : Nat → Int32 → Int32 → (Nat → Int32) → Prop
  | 0, _, _, _ => False
  | n2 + 1, y1, y2, g => (if y1 ≤ y2 then True else (sx4_tickOn g ∧ (bnd (fx4_tickOn g) (fun g3002 => sx4_runs_L2 n2 y1 (y2 + 1) g3002))))
def fx4_runs (g : (Nat → Int32)) (x1 : Int32) : Int32 × ((Nat → Int32)) := fx4_runs_L2 kfu x1 0 g
def sx4_runs (g : (Nat → Int32)) (x1 : Int32) : Prop := sx4_runs_L2 kfu x1 0 g
set_option maxHeartbeats 4000000 in
set_option maxRecDepth 100000 in
theorem cx4_runs {l : Launch} {D : va_G} {cI cB cS cJ : ClassId} {K : State → Prop} (E : kE D cI cB cS cJ K) (am : Nat → Nat) (sv rf ln : Int32) (hs : Int64) (g : (Nat → Int32)) (x1 : Int32) (hF : sx4_runs g x1) : kI l D K yX4_runs wsX4_runs 6 136 [.ref (am 0), .int x1] (mnW cI am sv rf ln hs g) (fx4_runs g x1).1 (mnW cI am sv rf ln hs (fx4_runs g x1).2) := by
  refine kI_of (own := RX4) (cc := cX4_runs) (maxL := 3) (tys := kty cI cB cS cJ) (fun U h => (E.2 U h).1) (by decide) rfl rfl (Nat.le_of_ble_eq_true rfl) ?_
  intro p e s m below meth c A ls hx hb hr hml hts hown hlk hKs hK hP hD hA hS hl
  have hl : lv_has ls 3 [(0, .ref (am 0)), (1, .int x1)] := hl
  have hX : CallFix p m c cX4_runs 3 s _ wsX4_runs RX4 := ⟨hx, hb, hml, hown, hts⟩
  have hinX4 : ∀ w ∈ wsX40, w ∈ wsX4_runs := fun w h => List.mem_cons_of_mem _ (List.mem_append_right _ h)
  have q1 := hts (.fieldLink RX4 7 "LabelStationModel" "now" "[I") (List.mem_of_getElem? (i := 1) rfl)
  generalize hR : fx4_runs g x1 = R
  rw [fx4_runs] at hR
  rw [sx4_runs] at hF
  refine lv_iconst (v := 0) hx hb dX4_runs_0 (by decide) ?_
  refine lv_istore_n (lv' := [(2, .int 0), (0, .ref (am 0)), (1, .int x1)]) hx hb dX4_runs_1 rfl hl (by decide) rfl (fun ls hl => ?_)
  have loop2 : ∀ (n2 : Nat) (y1 : Int32) (y2 : Int32) (g : (Nat → Int32)) (H : Heap) (locs : List Loc) (ls : Array Slot), fx4_runs_L2 n2 y1 y2 g = R → sx4_runs_L2 n2 y1 y2 g → va_P D vwCl (mnW cI am sv rf ln hs g) H → va_D A (mnW cI am sv rf ln hs g) → va_S A s.heap H locs → lv_has ls 3 [(1, .int y1), (2, .int y2), (0, .ref (am 0))] → W p l e (kRm 6 136) s m ([.ref (am 0), .int x1] : List Value).toArray below meth c H locs 0 0 (kQI D below R.1 (mnW cI am sv rf ln hs R.2) A ([.ref (am 0), .int x1] : List Value).toArray s) (F0 m 2 ls []) := by
    intro n2
    induction n2 with
    | zero => intro y1 y2 g H locs ls hR hF; exact hF.elim
    | succ n2 ih2 =>
      intro y1 y2 g H locs ls hR hF hP hD hS hl
      rw [fx4_runs_L2] at hR
      rw [sx4_runs_L2] at hF
      refine lv_iload_n hx hb dX4_runs_2 rfl (lv_at hl 1 rfl) ?_
      refine lv_iload_n hx hb dX4_runs_3 rfl (lv_at hl 0 rfl) ?_
      refine lv_icmp_ge (tgt := 17) hx hb dX4_runs_4 (by decide) (fun c3001 => ?_) (fun c3001 => ?_)
      · rw [if_pos c3001] at hR hF
        refine lv_aload_n hx hb dX4_runs_17 rfl (lv_at hl 2 rfl) ?_
        refine va_get (D := D) (ci := 4) (v := .ref (am 1)) (C := RX4) (T := TX4) (N := 8) hx hb hts hinX4 hown hK hP 0 rfl rfl 0 (by decide) q1 (fun _ h9 => h9) rfl dX4_runs_18 ?_
        refine lv_bipush (v := 14) hx hb dX4_runs_21 (by decide) ?_
        refine va_iald hx hb hK hP 1 0 rfl rfl (kin_lit (j := 14) (n := 1203) (by decide) (by decide)) dX4_runs_23 ?_
        refine kw_top (v := .int (g 14)) rfl ?_
        subst hR
        exact krI hx hb hr hlk hP hD hS dX4_runs_24 rfl rfl
      · rw [if_neg c3001] at hR hF
        refine lv_aload_n hx hb dX4_runs_7 rfl (lv_at hl 2 rfl) ?_
        obtain ⟨hs3003, hF⟩ := hF
        refine kcV (ci := 4) (q0 := 0) (As := []) (rest := []) E.1 (cx4_tickOn E am sv rf ln hs g hs3003) hX (cwV 0 hts gX4_runs_X4_tickOn rfl rfl rfl hdX4_tickOn ⟨Nat.le_of_ble_eq_true rfl, Nat.le_of_ble_eq_true rfl⟩) hKs hK hP hD hS hA _ _ (kw_self _) (kw_self _).symm rfl rfl rfl rfl hl.1 (Nat.le_of_ble_eq_true rfl) dX4_runs_8 ⟨Nat.zero_le _, Nat.zero_le _⟩ (fun H locs hP hD hS => ?_)
        have hP : va_P D vwCl (mnW cI am sv rf ln hs (fx4_tickOn g)) H := hP
        have hD : va_D A (mnW cI am sv rf ln hs (fx4_tickOn g)) := hD
        generalize eg3002 : fx4_tickOn g = g3002 at hR hF hP hD
        replace hR := bnd_e hR
        replace hF := bnd_p hF
        refine lv_iinc (v := y2 + 1) (lv' := [(2, .int (y2 + 1)), (1, .int y1), (0, .ref (am 0))]) hx hb dX4_runs_11 hl (k := 1) rfl rfl (by decide) rfl (fun ls hl => ?_)
        refine lv_goto (tgt := 2) hx hb dX4_runs_14 (by decide) ?_
        exact ih2 y1 (y2 + 1) g3002 _ _ ls hR hF hP hD hS (lv_sub hl [1, 0, 2] rfl)
  exact loop2 kfu x1 0 g _ _ ls hR hF hP hD hS (lv_sub hl [2, 0, 1] rfl)

theorem hdX4_tellStatus : yX4_tellStatus.cls = RX4 ∧ yX4_tellStatus.cls ≠ "java/lang/invoke/MethodHandle" ∧ yX4_tellStatus.cls ≠ "java/lang/invoke/VarHandle" ∧ (parseMethodDescriptor yX4_tellStatus.desc).map (fun d => d.parameters.length) = some 1 := by decide +kernel
def fx4_tellStatus (g : (Nat → Int32)) (x1 : Int32) : Int32 := (if x1 = 0 then g 14 else (if x1 = 1 then g 15 else (if x1 = 2 then g 16 else (if x1 = 3 then g 36 else (if x1 = 4 then g 117 else (if x1 = 5 then g 478 else (if x1 = 6 then g 1040 else g 959)))))))
set_option maxHeartbeats 4000000 in
set_option maxRecDepth 100000 in
theorem cx4_tellStatus {l : Launch} {D : va_G} {cI cB cS cJ : ClassId} {K : State → Prop} (E : kE D cI cB cS cJ K) (am : Nat → Nat) (sv rf ln : Int32) (hs : Int64) (g : (Nat → Int32)) (x1 : Int32) : kI l D K yX4_tellStatus wsX4_tellStatus 0 0 [.ref (am 0), .int x1] (mnW cI am sv rf ln hs g) (fx4_tellStatus g x1) (mnW cI am sv rf ln hs g) := by
  refine kI_of (own := RX4) (cc := cX4_tellStatus) (maxL := 2) (tys := kty cI cB cS cJ) (fun U h => (E.2 U h).1) (by decide) rfl rfl (Nat.le_of_ble_eq_true rfl) ?_
  intro p e s m below meth c A ls hx hb hr hml hts hown hlk hKs hK hP hD hA hS hl
  have hl : lv_has ls 2 [(0, .ref (am 0)), (1, .int x1)] := hl
  have hX : CallFix p m c cX4_tellStatus 2 s _ wsX4_tellStatus RX4 := ⟨hx, hb, hml, hown, hts⟩
  have hinX4 : ∀ w ∈ wsX40, w ∈ wsX4_tellStatus := fun w h => List.mem_cons_of_mem _ (List.mem_append_right _ h)
  have q1 := hts (.fieldLink RX4 7 "LabelStationModel" "now" "[I") (List.mem_of_getElem? (i := 1) rfl)
  generalize hR : fx4_tellStatus g x1 = R
  rw [fx4_tellStatus] at hR
  refine lv_iload_n hx hb dX4_tellStatus_0 rfl (lv_at hl 1 rfl) ?_
  rcases Classical.em (x1 = 0) with c1 | c1
  · rw [if_pos c1] at hR
    refine lv_tableIn (tgt := 44) (off := 43) hx hb dX4_tellStatus_1 (by rw [c1]; decide) (by rw [c1]; decide) (by rw [c1]; rfl) (by decide) ?_
    refine lv_aload_n hx hb dX4_tellStatus_44 rfl (lv_at hl 0 rfl) ?_
    refine va_get (D := D) (ci := 4) (v := .ref (am 1)) (C := RX4) (T := TX4) (N := 8) hx hb hts hinX4 hown hK hP 0 rfl rfl 0 (by decide) q1 (fun _ h9 => h9) rfl dX4_tellStatus_45 ?_
    refine lv_bipush (v := 14) hx hb dX4_tellStatus_48 (by decide) ?_
    refine va_iald hx hb hK hP 1 0 rfl rfl (kin_lit (j := 14) (n := 1203) (by decide) (by decide)) dX4_tellStatus_50 ?_
    refine kw_top (v := .int (g 14)) rfl ?_
    subst hR
    exact krI hx hb hr hlk hP hD hS dX4_tellStatus_51 rfl rfl
  · rw [if_neg c1] at hR
    rcases Classical.em (x1 = 1) with c2 | c2
    · rw [if_pos c2] at hR
      refine lv_tableIn (tgt := 52) (off := 51) hx hb dX4_tellStatus_1 (by rw [c2]; decide) (by rw [c2]; decide) (by rw [c2]; rfl) (by decide) ?_
      refine lv_aload_n hx hb dX4_tellStatus_52 rfl (lv_at hl 0 rfl) ?_
      refine va_get (D := D) (ci := 4) (v := .ref (am 1)) (C := RX4) (T := TX4) (N := 8) hx hb hts hinX4 hown hK hP 0 rfl rfl 0 (by decide) q1 (fun _ h9 => h9) rfl dX4_tellStatus_53 ?_
      refine lv_bipush (v := 15) hx hb dX4_tellStatus_56 (by decide) ?_
      refine va_iald hx hb hK hP 1 0 rfl rfl (kin_lit (j := 15) (n := 1203) (by decide) (by decide)) dX4_tellStatus_58 ?_
      refine kw_top (v := .int (g 15)) rfl ?_
      subst hR
      exact krI hx hb hr hlk hP hD hS dX4_tellStatus_59 rfl rfl
    · rw [if_neg c2] at hR
      rcases Classical.em (x1 = 2) with c3 | c3
      · rw [if_pos c3] at hR
        refine lv_tableIn (tgt := 60) (off := 59) hx hb dX4_tellStatus_1 (by rw [c3]; decide) (by rw [c3]; decide) (by rw [c3]; rfl) (by decide) ?_
        refine lv_aload_n hx hb dX4_tellStatus_60 rfl (lv_at hl 0 rfl) ?_
        refine va_get (D := D) (ci := 4) (v := .ref (am 1)) (C := RX4) (T := TX4) (N := 8) hx hb hts hinX4 hown hK hP 0 rfl rfl 0 (by decide) q1 (fun _ h9 => h9) rfl dX4_tellStatus_61 ?_
        refine lv_bipush (v := 16) hx hb dX4_tellStatus_64 (by decide) ?_
        refine va_iald hx hb hK hP 1 0 rfl rfl (kin_lit (j := 16) (n := 1203) (by decide) (by decide)) dX4_tellStatus_66 ?_
        refine kw_top (v := .int (g 16)) rfl ?_
        subst hR
        exact krI hx hb hr hlk hP hD hS dX4_tellStatus_67 rfl rfl
      · rw [if_neg c3] at hR
        rcases Classical.em (x1 = 3) with c4 | c4
        · rw [if_pos c4] at hR
          refine lv_tableIn (tgt := 68) (off := 67) hx hb dX4_tellStatus_1 (by rw [c4]; decide) (by rw [c4]; decide) (by rw [c4]; rfl) (by decide) ?_
          refine lv_aload_n hx hb dX4_tellStatus_68 rfl (lv_at hl 0 rfl) ?_
          refine va_get (D := D) (ci := 4) (v := .ref (am 1)) (C := RX4) (T := TX4) (N := 8) hx hb hts hinX4 hown hK hP 0 rfl rfl 0 (by decide) q1 (fun _ h9 => h9) rfl dX4_tellStatus_69 ?_
          refine lv_bipush (v := 36) hx hb dX4_tellStatus_72 (by decide) ?_
          refine va_iald hx hb hK hP 1 0 rfl rfl (kin_lit (j := 36) (n := 1203) (by decide) (by decide)) dX4_tellStatus_74 ?_
          refine kw_top (v := .int (g 36)) rfl ?_
          subst hR
          exact krI hx hb hr hlk hP hD hS dX4_tellStatus_75 rfl rfl
        · rw [if_neg c4] at hR
          rcases Classical.em (x1 = 4) with c5 | c5
          · rw [if_pos c5] at hR
            refine lv_tableIn (tgt := 76) (off := 75) hx hb dX4_tellStatus_1 (by rw [c5]; decide) (by rw [c5]; decide) (by rw [c5]; rfl) (by decide) ?_
            refine lv_aload_n hx hb dX4_tellStatus_76 rfl (lv_at hl 0 rfl) ?_
            refine va_get (D := D) (ci := 4) (v := .ref (am 1)) (C := RX4) (T := TX4) (N := 8) hx hb hts hinX4 hown hK hP 0 rfl rfl 0 (by decide) q1 (fun _ h9 => h9) rfl dX4_tellStatus_77 ?_
            refine lv_bipush (v := 117) hx hb dX4_tellStatus_80 (by decide) ?_
            refine va_iald hx hb hK hP 1 0 rfl rfl (kin_lit (j := 117) (n := 1203) (by decide) (by decide)) dX4_tellStatus_82 ?_
            refine kw_top (v := .int (g 117)) rfl ?_
            subst hR
            exact krI hx hb hr hlk hP hD hS dX4_tellStatus_83 rfl rfl
          · rw [if_neg c5] at hR
            rcases Classical.em (x1 = 5) with c6 | c6
            · rw [if_pos c6] at hR
              refine lv_tableIn (tgt := 84) (off := 83) hx hb dX4_tellStatus_1 (by rw [c6]; decide) (by rw [c6]; decide) (by rw [c6]; rfl) (by decide) ?_
              refine lv_aload_n hx hb dX4_tellStatus_84 rfl (lv_at hl 0 rfl) ?_
              refine va_get (D := D) (ci := 4) (v := .ref (am 1)) (C := RX4) (T := TX4) (N := 8) hx hb hts hinX4 hown hK hP 0 rfl rfl 0 (by decide) q1 (fun _ h9 => h9) rfl dX4_tellStatus_85 ?_
              refine lv_sipush (v := 478) hx hb dX4_tellStatus_88 (by decide) ?_
              refine va_iald hx hb hK hP 1 0 rfl rfl (kin_lit (j := 478) (n := 1203) (by decide) (by decide)) dX4_tellStatus_91 ?_
              refine kw_top (v := .int (g 478)) rfl ?_
              subst hR
              exact krI hx hb hr hlk hP hD hS dX4_tellStatus_92 rfl rfl
            · rw [if_neg c6] at hR
              rcases Classical.em (x1 = 6) with c7 | c7
              · rw [if_pos c7] at hR
                refine lv_tableIn (tgt := 93) (off := 92) hx hb dX4_tellStatus_1 (by rw [c7]; decide) (by rw [c7]; decide) (by rw [c7]; rfl) (by decide) ?_
                refine lv_aload_n hx hb dX4_tellStatus_93 rfl (lv_at hl 0 rfl) ?_
                refine va_get (D := D) (ci := 4) (v := .ref (am 1)) (C := RX4) (T := TX4) (N := 8) hx hb hts hinX4 hown hK hP 0 rfl rfl 0 (by decide) q1 (fun _ h9 => h9) rfl dX4_tellStatus_94 ?_
                refine lv_sipush (v := 1040) hx hb dX4_tellStatus_97 (by decide) ?_
                refine va_iald hx hb hK hP 1 0 rfl rfl (kin_lit (j := 1040) (n := 1203) (by decide) (by decide)) dX4_tellStatus_100 ?_
                refine kw_top (v := .int (g 1040)) rfl ?_
                subst hR
                exact krI hx hb hr hlk hP hD hS dX4_tellStatus_101 rfl rfl
              · rw [if_neg c7] at hR
                refine lv_tableOut (tgt := 102) hx hb dX4_tellStatus_1 (ksw_out7 c1 c2 c3 c4 c5 c6 c7) (by decide) ?_
                refine lv_aload_n hx hb dX4_tellStatus_102 rfl (lv_at hl 0 rfl) ?_
                refine va_get (D := D) (ci := 4) (v := .ref (am 1)) (C := RX4) (T := TX4) (N := 8) hx hb hts hinX4 hown hK hP 0 rfl rfl 0 (by decide) q1 (fun _ h9 => h9) rfl dX4_tellStatus_103 ?_
                refine lv_sipush (v := 959) hx hb dX4_tellStatus_106 (by decide) ?_
                refine va_iald hx hb hK hP 1 0 rfl rfl (kin_lit (j := 959) (n := 1203) (by decide) (by decide)) dX4_tellStatus_109 ?_
                refine kw_top (v := .int (g 959)) rfl ?_
                subst hR
                exact krI hx hb hr hlk hP hD hS dX4_tellStatus_110 rfl rfl

theorem hdX4_spareOf : yX4_spareOf.cls = RX4 ∧ yX4_spareOf.cls ≠ "java/lang/invoke/MethodHandle" ∧ yX4_spareOf.cls ≠ "java/lang/invoke/VarHandle" ∧ (parseMethodDescriptor yX4_spareOf.desc).map (fun d => d.parameters.length) = some 1 := by decide +kernel
def fx4_spareOf (g : (Nat → Int32)) (x1 : Int32) : Int32 := ((g 10) - (g 8)) - ((x1 * (g 1)) - 1)
set_option maxHeartbeats 4000000 in
set_option maxRecDepth 100000 in
theorem cx4_spareOf {l : Launch} {D : va_G} {cI cB cS cJ : ClassId} {K : State → Prop} (E : kE D cI cB cS cJ K) (am : Nat → Nat) (sv rf ln : Int32) (hs : Int64) (g : (Nat → Int32)) (x1 : Int32) : kI l D K yX4_spareOf wsX4_spareOf 0 0 [.ref (am 0), .int x1] (mnW cI am sv rf ln hs g) (fx4_spareOf g x1) (mnW cI am sv rf ln hs g) := by
  refine kI_of (own := RX4) (cc := cX4_spareOf) (maxL := 2) (tys := kty cI cB cS cJ) (fun U h => (E.2 U h).1) (by decide) rfl rfl (Nat.le_of_ble_eq_true rfl) ?_
  intro p e s m below meth c A ls hx hb hr hml hts hown hlk hKs hK hP hD hA hS hl
  have hl : lv_has ls 2 [(0, .ref (am 0)), (1, .int x1)] := hl
  have hX : CallFix p m c cX4_spareOf 2 s _ wsX4_spareOf RX4 := ⟨hx, hb, hml, hown, hts⟩
  have hinX4 : ∀ w ∈ wsX40, w ∈ wsX4_spareOf := fun w h => List.mem_cons_of_mem _ (List.mem_append_right _ h)
  have q1 := hts (.fieldLink RX4 7 "LabelStationModel" "now" "[I") (List.mem_of_getElem? (i := 1) rfl)
  generalize hR : fx4_spareOf g x1 = R
  rw [fx4_spareOf] at hR
  refine lv_aload_n hx hb dX4_spareOf_0 rfl (lv_at hl 0 rfl) ?_
  refine va_get (D := D) (ci := 4) (v := .ref (am 1)) (C := RX4) (T := TX4) (N := 8) hx hb hts hinX4 hown hK hP 0 rfl rfl 0 (by decide) q1 (fun _ h9 => h9) rfl dX4_spareOf_1 ?_
  refine lv_bipush (v := 10) hx hb dX4_spareOf_4 (by decide) ?_
  refine va_iald hx hb hK hP 1 0 rfl rfl (kin_lit (j := 10) (n := 1203) (by decide) (by decide)) dX4_spareOf_6 ?_
  refine kw_top (v := .int (g 10)) rfl ?_
  refine lv_aload_n hx hb dX4_spareOf_7 rfl (lv_at hl 0 rfl) ?_
  refine va_get (D := D) (ci := 4) (v := .ref (am 1)) (C := RX4) (T := TX4) (N := 8) hx hb hts hinX4 hown hK hP 0 rfl rfl 0 (by decide) q1 (fun _ h9 => h9) rfl dX4_spareOf_8 ?_
  refine lv_bipush (v := 8) hx hb dX4_spareOf_11 (by decide) ?_
  refine va_iald hx hb hK hP 1 0 rfl rfl (kin_lit (j := 8) (n := 1203) (by decide) (by decide)) dX4_spareOf_13 ?_
  refine kw_top (v := .int (g 8)) rfl ?_
  refine lv_isub hx hb dX4_spareOf_14 ?_
  refine lv_iload_n hx hb dX4_spareOf_15 rfl (lv_at hl 1 rfl) ?_
  refine lv_aload_n hx hb dX4_spareOf_16 rfl (lv_at hl 0 rfl) ?_
  refine va_get (D := D) (ci := 4) (v := .ref (am 1)) (C := RX4) (T := TX4) (N := 8) hx hb hts hinX4 hown hK hP 0 rfl rfl 0 (by decide) q1 (fun _ h9 => h9) rfl dX4_spareOf_17 ?_
  refine lv_iconst (v := 1) hx hb dX4_spareOf_20 (by decide) ?_
  refine va_iald hx hb hK hP 1 0 rfl rfl (kin_lit (j := 1) (n := 1203) (by decide) (by decide)) dX4_spareOf_21 ?_
  refine kw_top (v := .int (g 1)) rfl ?_
  refine lv_imul hx hb dX4_spareOf_22 ?_
  refine lv_iconst (v := 1) hx hb dX4_spareOf_23 (by decide) ?_
  refine lv_isub hx hb dX4_spareOf_24 ?_
  refine lv_isub hx hb dX4_spareOf_25 ?_
  subst hR
  exact krI hx hb hr hlk hP hD hS dX4_spareOf_26 rfl rfl

theorem hdX4_does : yX4_does.cls = RX4 ∧ yX4_does.cls ≠ "java/lang/invoke/MethodHandle" ∧ yX4_does.cls ≠ "java/lang/invoke/VarHandle" ∧ (parseMethodDescriptor yX4_does.desc).map (fun d => d.parameters.length) = some 1 := by decide +kernel
def fx4_does (g : (Nat → Int32)) (x1 : Int32) : Int32 × ((Nat → Int32)) := (if x1 = 46 then (bnd (fx4_runs g 1) (fun u2 => (if u2.1 < 0 then (0, u2.2) else (1, u2.2)))) else (if x1 = 58 then (bnd (fx4_runs g 10) (fun u6 => (if u6.1 < 0 then (0, u6.2) else (1, u6.2)))) else (bnd (fx4_barFeed g (x1 - 48)) (fun v9 => (if v9 = 0 then (bnd (fx4_feeds g (x1 - 48)) (fun u11 => (if u11.1 < 0 then (0, u11.2) else (1, u11.2)))) else (0, g))))))
def sx4_does (g : (Nat → Int32)) (x1 : Int32) : Prop := (if x1 = 46 then sx4_runs g 1 else (if x1 = 58 then sx4_runs g 10 else (sx4_barFeed g (x1 - 48) ∧ (bnd (fx4_barFeed g (x1 - 48)) (fun v9 => (if v9 = 0 then sx4_feeds g (x1 - 48) else True))))))
set_option maxHeartbeats 4000000 in
set_option maxRecDepth 100000 in
theorem cx4_does {l : Launch} {D : va_G} {cI cB cS cJ : ClassId} {K : State → Prop} (E : kE D cI cB cS cJ K) (am : Nat → Nat) (sv rf ln : Int32) (hs : Int64) (g : (Nat → Int32)) (x1 : Int32) (hF : sx4_does g x1) : kI l D K yX4_does wsX4_does 7 158 [.ref (am 0), .int x1] (mnW cI am sv rf ln hs g) (fx4_does g x1).1 (mnW cI am sv rf ln hs (fx4_does g x1).2) := by
  refine kI_of (own := RX4) (cc := cX4_does) (maxL := 2) (tys := kty cI cB cS cJ) (fun U h => (E.2 U h).1) (by decide) rfl rfl (Nat.le_of_ble_eq_true rfl) ?_
  intro p e s m below meth c A ls hx hb hr hml hts hown hlk hKs hK hP hD hA hS hl
  have hl : lv_has ls 2 [(0, .ref (am 0)), (1, .int x1)] := hl
  have hX : CallFix p m c cX4_does 2 s _ wsX4_does RX4 := ⟨hx, hb, hml, hown, hts⟩
  generalize hR : fx4_does g x1 = R
  rw [fx4_does] at hR
  rw [sx4_does] at hF
  refine lv_iload_n hx hb dX4_does_0 rfl (lv_at hl 1 rfl) ?_
  refine lv_bipush (v := 46) hx hb dX4_does_1 (by decide) ?_
  refine lv_icmp_eq (tgt := 12) hx hb dX4_does_3 (by decide) (fun c1 => ?_) (fun c1 => ?_)
  · rw [if_pos c1] at hR hF
    refine lv_aload_n hx hb dX4_does_12 rfl (lv_at hl 0 rfl) ?_
    refine lv_iload_n hx hb dX4_does_13 rfl (lv_at hl 1 rfl) ?_
    refine lv_bipush (v := 46) hx hb dX4_does_14 (by decide) ?_
    refine lv_icmp_ne (tgt := 23) hx hb dX4_does_16 (by decide) (fun c => absurd c1 c) (fun _ => ?_)
    refine lv_iconst (v := 1) hx hb dX4_does_19 (by decide) ?_
    refine lv_goto (tgt := 25) hx hb dX4_does_20 (by decide) ?_
    have hs4 := hF
    refine kcI (ci := 4) (q0 := 0) (As := [.int 1]) (rest := []) E.1 (cx4_runs E am sv rf ln hs g 1 hs4) hX (cwV 1 hts gX4_does_X4_runs rfl rfl rfl hdX4_runs ⟨Nat.le_of_ble_eq_true rfl, Nat.le_of_ble_eq_true rfl⟩) hKs hK hP hD hS hA _ _ (kw_self _) (kw_self _).symm rfl rfl rfl rfl hl.1 (Nat.le_of_ble_eq_true rfl) dX4_does_25 ⟨Nat.zero_le _, Nat.zero_le _⟩ (fun H locs hP hD hS => ?_)
    have hP : va_P D vwCl (mnW cI am sv rf ln hs ((fx4_runs g 1).2)) H := hP
    have hD : va_D A (mnW cI am sv rf ln hs ((fx4_runs g 1).2)) := hD
    generalize eu2 : fx4_runs g 1 = u2 at hR hP hD ⊢
    replace hR := bnd_e hR
    refine lv_if_lt (tgt := 35) hx hb dX4_does_28 (by decide) (fun c3 => ?_) (fun c3 => ?_)
    · rw [if_pos c3] at hR
      refine lv_iconst (v := 0) hx hb dX4_does_35 (by decide) ?_
      subst hR
      exact krZ hx hb hr hlk hP hD hS dX4_does_36 (by decide) rfl rfl
    · rw [if_neg c3] at hR
      refine lv_iconst (v := 1) hx hb dX4_does_31 (by decide) ?_
      refine lv_goto (tgt := 36) hx hb dX4_does_32 (by decide) ?_
      subst hR
      exact krZ hx hb hr hlk hP hD hS dX4_does_36 (by decide) rfl rfl
  · rw [if_neg c1] at hR hF
    refine lv_iload_n hx hb dX4_does_6 rfl (lv_at hl 1 rfl) ?_
    refine lv_bipush (v := 58) hx hb dX4_does_7 (by decide) ?_
    refine lv_icmp_ne (tgt := 37) hx hb dX4_does_9 (by decide) (fun c5 => ?_) (fun c5 => ?_)
    · rw [if_neg c5] at hR hF
      refine lv_aload_n hx hb dX4_does_37 rfl (lv_at hl 0 rfl) ?_
      refine lv_iload_n hx hb dX4_does_38 rfl (lv_at hl 1 rfl) ?_
      refine lv_bipush (v := 48) hx hb dX4_does_39 (by decide) ?_
      refine lv_isub hx hb dX4_does_41 ?_
      obtain ⟨hs14, hF⟩ := hF
      refine kcI (ci := 4) (q0 := 0) (As := [.int (x1 - 48)]) (rest := []) E.1 (cx4_barFeed E am sv rf ln hs g (x1 - 48) hs14) hX (cwV 1 hts gX4_does_X4_barFeed rfl rfl rfl hdX4_barFeed ⟨Nat.le_of_ble_eq_true rfl, Nat.le_of_ble_eq_true rfl⟩) hKs hK hP hD hS hA _ _ (kw_self _) (kw_self _).symm rfl rfl rfl rfl hl.1 (Nat.le_of_ble_eq_true rfl) dX4_does_42 ⟨Nat.zero_le _, Nat.zero_le _⟩ (fun H locs hP hD hS => ?_)
      generalize ev9 : fx4_barFeed g (x1 - 48) = v9 at hR hF ⊢
      replace hR := bnd_e hR
      replace hF := bnd_p hF
      refine lv_if_ne (tgt := 63) hx hb dX4_does_45 (by decide) (fun c10 => ?_) (fun c10 => ?_)
      · rw [if_neg c10] at hR hF
        refine lv_iconst (v := 0) hx hb dX4_does_63 (by decide) ?_
        subst hR
        exact krZ hx hb hr hlk hP hD hS dX4_does_64 (by decide) rfl rfl
      · rw [if_pos c10] at hR hF
        refine lv_aload_n hx hb dX4_does_48 rfl (lv_at hl 0 rfl) ?_
        refine lv_iload_n hx hb dX4_does_49 rfl (lv_at hl 1 rfl) ?_
        refine lv_bipush (v := 48) hx hb dX4_does_50 (by decide) ?_
        refine lv_isub hx hb dX4_does_52 ?_
        have hs13 := hF
        refine kcI (ci := 4) (q0 := 0) (As := [.int (x1 - 48)]) (rest := []) E.1 (cx4_feeds E am sv rf ln hs g (x1 - 48) hs13) hX (cwV 1 hts gX4_does_X4_feeds rfl rfl rfl hdX4_feeds ⟨Nat.le_of_ble_eq_true rfl, Nat.le_of_ble_eq_true rfl⟩) hKs hK hP hD hS hA _ _ (kw_self _) (kw_self _).symm rfl rfl rfl rfl hl.1 (Nat.le_of_ble_eq_true rfl) dX4_does_53 ⟨Nat.zero_le _, Nat.zero_le _⟩ (fun H locs hP hD hS => ?_)
        have hP : va_P D vwCl (mnW cI am sv rf ln hs ((fx4_feeds g (x1 - 48)).2)) H := hP
        have hD : va_D A (mnW cI am sv rf ln hs ((fx4_feeds g (x1 - 48)).2)) := hD
        generalize eu11 : fx4_feeds g (x1 - 48) = u11 at hR hP hD ⊢
        replace hR := bnd_e hR
        refine lv_if_lt (tgt := 63) hx hb dX4_does_56 (by decide) (fun c12 => ?_) (fun c12 => ?_)
        · rw [if_pos c12] at hR
          refine lv_iconst (v := 0) hx hb dX4_does_63 (by decide) ?_
          subst hR
          exact krZ hx hb hr hlk hP hD hS dX4_does_64 (by decide) rfl rfl
        · rw [if_neg c12] at hR
          refine lv_iconst (v := 1) hx hb dX4_does_59 (by decide) ?_
          refine lv_goto (tgt := 64) hx hb dX4_does_60 (by decide) ?_
          subst hR
          exact krZ hx hb hr hlk hP hD hS dX4_does_64 (by decide) rfl rfl
    · rw [if_pos c5] at hR hF
      refine lv_aload_n hx hb dX4_does_12 rfl (lv_at hl 0 rfl) ?_
      refine lv_iload_n hx hb dX4_does_13 rfl (lv_at hl 1 rfl) ?_
      refine lv_bipush (v := 46) hx hb dX4_does_14 (by decide) ?_
      refine lv_icmp_ne (tgt := 23) hx hb dX4_does_16 (by decide) (fun _ => ?_) (fun c => absurd c c1)
      refine lv_bipush (v := 10) hx hb dX4_does_23 (by decide) ?_
      have hs8 := hF
      refine kcI (ci := 4) (q0 := 0) (As := [.int 10]) (rest := []) E.1 (cx4_runs E am sv rf ln hs g 10 hs8) hX (cwV 1 hts gX4_does_X4_runs rfl rfl rfl hdX4_runs ⟨Nat.le_of_ble_eq_true rfl, Nat.le_of_ble_eq_true rfl⟩) hKs hK hP hD hS hA _ _ (kw_self _) (kw_self _).symm rfl rfl rfl rfl hl.1 (Nat.le_of_ble_eq_true rfl) dX4_does_25 ⟨Nat.zero_le _, Nat.zero_le _⟩ (fun H locs hP hD hS => ?_)
      have hP : va_P D vwCl (mnW cI am sv rf ln hs ((fx4_runs g 10).2)) H := hP
      have hD : va_D A (mnW cI am sv rf ln hs ((fx4_runs g 10).2)) := hD
      generalize eu6 : fx4_runs g 10 = u6 at hR hP hD ⊢
      replace hR := bnd_e hR
      refine lv_if_lt (tgt := 35) hx hb dX4_does_28 (by decide) (fun c7 => ?_) (fun c7 => ?_)
      · rw [if_pos c7] at hR
        refine lv_iconst (v := 0) hx hb dX4_does_35 (by decide) ?_
        subst hR
        exact krZ hx hb hr hlk hP hD hS dX4_does_36 (by decide) rfl rfl
      · rw [if_neg c7] at hR
        refine lv_iconst (v := 1) hx hb dX4_does_31 (by decide) ?_
        refine lv_goto (tgt := 36) hx hb dX4_does_32 (by decide) ?_
        subst hR
        exact krZ hx hb hr hlk hP hD hS dX4_does_36 (by decide) rfl rfl

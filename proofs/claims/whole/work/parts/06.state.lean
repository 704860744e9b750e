/-! the states: printed by my own program (gen.py) out of the listing -/
theorem hdX1_watch : yX1_watch.cls = RX1 ∧ yX1_watch.cls ≠ "java/lang/invoke/MethodHandle" ∧ yX1_watch.cls ≠ "java/lang/invoke/VarHandle" ∧ (parseMethodDescriptor yX1_watch.desc).map (fun d => d.parameters.length) = some 1 := by decide +kernel
def fx1_watch (S : St) (x1 : Int32) : St := sset (sset S 3 6 x1) 3 7 0
set_option maxHeartbeats 4000000 in
set_option maxRecDepth 100000 in
theorem cx1_watch {l : Launch} {D : va_G} {cI cB cS cJ : ClassId} {K : State → Prop} (E : kE D cI cB cS cJ K) (ad : Nat → Nat) (S : St) (x1 : Int32) : kV l D K yX1_watch wsX1_watch 0 0 [.ref (ad 0), .int x1] (stW cI ad S)  (stW cI ad (fx1_watch S x1)) := by
  refine kV_of (own := RX1) (cc := cX1_watch) (maxL := 2) (tys := kty cI cB cS cJ) (fun U h => (E.2 U h).1) (by decide) rfl rfl (Nat.le_of_ble_eq_true rfl) ?_
  intro p e s m below meth c A ls hx hb hr hml hts hown hlk hKs hK hP hD hA hS hl
  have hl : lv_has ls 2 [(0, .ref (ad 0)), (1, .int x1)] := hl
  have hX : CallFix p m c cX1_watch 2 s _ wsX1_watch RX1 := ⟨hx, hb, hml, hown, hts⟩
  have hinX1 : ∀ w ∈ wsX10, w ∈ wsX1_watch := fun w h => List.mem_cons_of_mem _ (List.mem_append_right _ h)
  have q1 := hts (.fieldLink RX1 62 "LabelStation$State" "watched" "I") (List.mem_of_getElem? (i := 1) rfl)
  have q2 := hts (.fieldLink RX1 65 "LabelStation$State" "outcome" "I") (List.mem_of_getElem? (i := 2) rfl)
  generalize hR : fx1_watch S x1 = R
  rw [fx1_watch] at hR
  refine lv_aload_n hx hb dX1_watch_0 rfl (lv_at hl 0 rfl) ?_
  refine lv_iload_n hx hb dX1_watch_1 rfl (lv_at hl 1 rfl) ?_
  refine va_put (D := D) (ci := 1) (v := .int x1) (ty := .int) (C := RX1) (T := TX1) (N := 16) hx hb hts hinX1 tyX1 tyX1_ok nmX1 hown hK hP hD hS 0 rfl rfl 14 (by decide) q1 (fun _ h9 => h9) rfl (by decide +kernel) rfl rfl (Nat.le_of_ble_eq_true rfl) dX1_watch_2 (fun H locs hP hD hS => ?_)
  have hP : va_P D vwCl (stW cI ad (sset S 3 6 x1)) H := hP
  have hD : va_D A (stW cI ad (sset S 3 6 x1)) := hD
  refine lv_aload_n hx hb dX1_watch_5 rfl (lv_at hl 0 rfl) ?_
  refine lv_iconst (v := 0) hx hb dX1_watch_6 (by decide) ?_
  refine va_put (D := D) (ci := 1) (v := .int 0) (ty := .int) (C := RX1) (T := TX1) (N := 16) hx hb hts hinX1 tyX1 tyX1_ok nmX1 hown hK hP hD hS 0 rfl rfl 15 (by decide) q2 (fun _ h9 => h9) rfl (by decide +kernel) rfl rfl (Nat.le_of_ble_eq_true rfl) dX1_watch_7 (fun H locs hP hD hS => ?_)
  have hP : va_P D vwCl (stW cI ad (sset (sset S 3 6 x1) 3 7 0)) H := hP
  have hD : va_D A (stW cI ad (sset (sset S 3 6 x1) 3 7 0)) := hD
  subst hR
  exact krV hx hb hr hlk hP hD hS dX1_watch_10 rfl

theorem hdX1_setting : yX1_setting.cls = RX1 ∧ yX1_setting.cls ≠ "java/lang/invoke/MethodHandle" ∧ yX1_setting.cls ≠ "java/lang/invoke/VarHandle" ∧ (parseMethodDescriptor yX1_setting.desc).map (fun d => d.parameters.length) = some 1 := by decide +kernel
def fx1_setting (S : St) (x1 : Int32) : Int32 := (if x1 < 0 then 0 else (if (nI 7) ≤ x1 then 0 else (S 0) (x1).toNatClampNeg))
set_option maxHeartbeats 4000000 in
set_option maxRecDepth 100000 in
theorem cx1_setting {l : Launch} {D : va_G} {cI cB cS cJ : ClassId} {K : State → Prop} (E : kE D cI cB cS cJ K) (ad : Nat → Nat) (S : St) (x1 : Int32) : kI l D K yX1_setting wsX1_setting 0 0 [.ref (ad 0), .int x1] (stW cI ad S) (fx1_setting S x1) (stW cI ad S) := by
  refine kI_of (own := RX1) (cc := cX1_setting) (maxL := 2) (tys := kty cI cB cS cJ) (fun U h => (E.2 U h).1) (by decide) rfl rfl (Nat.le_of_ble_eq_true rfl) ?_
  intro p e s m below meth c A ls hx hb hr hml hts hown hlk hKs hK hP hD hA hS hl
  have hl : lv_has ls 2 [(0, .ref (ad 0)), (1, .int x1)] := hl
  have hX : CallFix p m c cX1_setting 2 s _ wsX1_setting RX1 := ⟨hx, hb, hml, hown, hts⟩
  have hinX1 : ∀ w ∈ wsX10, w ∈ wsX1_setting := fun w h => List.mem_cons_of_mem _ (List.mem_append_right _ h)
  have q1 := hts (.fieldLink RX1 9 "LabelStation$State" "settings" "[I") (List.mem_of_getElem? (i := 1) rfl)
  generalize hR : fx1_setting S x1 = R
  rw [fx1_setting] at hR
  refine lv_iload_n hx hb dX1_setting_0 rfl (lv_at hl 1 rfl) ?_
  refine lv_if_lt (tgt := 22) hx hb dX1_setting_1 (by decide) (fun c1 => ?_) (fun c1 => ?_)
  · rw [if_pos c1] at hR
    refine lv_iconst (v := 0) hx hb dX1_setting_22 (by decide) ?_
    subst hR
    exact krI hx hb hr hlk hP hD hS dX1_setting_23 rfl rfl
  · rw [if_neg c1] at hR
    refine lv_iload_n hx hb dX1_setting_4 rfl (lv_at hl 1 rfl) ?_
    refine lv_aload_n hx hb dX1_setting_5 rfl (lv_at hl 0 rfl) ?_
    refine va_get (D := D) (ci := 1) (v := .ref (ad 1)) (C := RX1) (T := TX1) (N := 16) hx hb hts hinX1 hown hK hP 0 rfl rfl 0 (by decide) q1 (fun _ h9 => h9) rfl dX1_setting_6 ?_
    refine va_alen (v := nI 7) hx hb hK hP 1 0 rfl rfl rfl dX1_setting_9 ?_
    refine lv_icmp_ge (tgt := 22) hx hb dX1_setting_10 (by decide) (fun c2 => ?_) (fun c2 => ?_)
    · rw [if_pos c2] at hR
      refine lv_iconst (v := 0) hx hb dX1_setting_22 (by decide) ?_
      subst hR
      exact krI hx hb hr hlk hP hD hS dX1_setting_23 rfl rfl
    · rw [if_neg c2] at hR
      refine lv_aload_n hx hb dX1_setting_13 rfl (lv_at hl 0 rfl) ?_
      refine va_get (D := D) (ci := 1) (v := .ref (ad 1)) (C := RX1) (T := TX1) (N := 16) hx hb hts hinX1 hown hK hP 0 rfl rfl 0 (by decide) q1 (fun _ h9 => h9) rfl dX1_setting_14 ?_
      refine lv_iload_n hx hb dX1_setting_17 rfl (lv_at hl 1 rfl) ?_
      refine va_iald hx hb hK hP 1 0 rfl rfl (kin_of c1 c2 (by decide)) dX1_setting_18 ?_
      refine lv_goto (tgt := 23) hx hb dX1_setting_19 (by decide) ?_
      subst hR
      exact krI hx hb hr hlk hP hD hS dX1_setting_23 rfl rfl

theorem hdX1_putSetting : yX1_putSetting.cls = RX1 ∧ yX1_putSetting.cls ≠ "java/lang/invoke/MethodHandle" ∧ yX1_putSetting.cls ≠ "java/lang/invoke/VarHandle" ∧ (parseMethodDescriptor yX1_putSetting.desc).map (fun d => d.parameters.length) = some 2 := by decide +kernel
def fx1_putSetting (S : St) (x1 : Int32) (x2 : Int32) : St := (if x1 < 0 then S else (if (nI 7) ≤ x1 then S else va_up S 0 (upd (S 0) (x1).toNatClampNeg x2)))
set_option maxHeartbeats 4000000 in
set_option maxRecDepth 100000 in
theorem cx1_putSetting {l : Launch} {D : va_G} {cI cB cS cJ : ClassId} {K : State → Prop} (E : kE D cI cB cS cJ K) (ad : Nat → Nat) (S : St) (x1 : Int32) (x2 : Int32) : kV l D K yX1_putSetting wsX1_putSetting 0 0 [.ref (ad 0), .int x1, .int x2] (stW cI ad S)  (stW cI ad (fx1_putSetting S x1 x2)) := by
  refine kV_of (own := RX1) (cc := cX1_putSetting) (maxL := 3) (tys := kty cI cB cS cJ) (fun U h => (E.2 U h).1) (by decide) rfl rfl (Nat.le_of_ble_eq_true rfl) ?_
  intro p e s m below meth c A ls hx hb hr hml hts hown hlk hKs hK hP hD hA hS hl
  have hl : lv_has ls 3 [(0, .ref (ad 0)), (1, .int x1), (2, .int x2)] := hl
  have hX : CallFix p m c cX1_putSetting 3 s _ wsX1_putSetting RX1 := ⟨hx, hb, hml, hown, hts⟩
  have hinX1 : ∀ w ∈ wsX10, w ∈ wsX1_putSetting := fun w h => List.mem_cons_of_mem _ (List.mem_append_right _ h)
  have q1 := hts (.fieldLink RX1 9 "LabelStation$State" "settings" "[I") (List.mem_of_getElem? (i := 1) rfl)
  generalize hR : fx1_putSetting S x1 x2 = R
  rw [fx1_putSetting] at hR
  refine lv_iload_n hx hb dX1_putSetting_0 rfl (lv_at hl 1 rfl) ?_
  refine lv_if_lt (tgt := 20) hx hb dX1_putSetting_1 (by decide) (fun c1 => ?_) (fun c1 => ?_)
  · rw [if_pos c1] at hR
    subst hR
    exact krV hx hb hr hlk hP hD hS dX1_putSetting_20 rfl
  · rw [if_neg c1] at hR
    refine lv_iload_n hx hb dX1_putSetting_4 rfl (lv_at hl 1 rfl) ?_
    refine lv_aload_n hx hb dX1_putSetting_5 rfl (lv_at hl 0 rfl) ?_
    refine va_get (D := D) (ci := 1) (v := .ref (ad 1)) (C := RX1) (T := TX1) (N := 16) hx hb hts hinX1 hown hK hP 0 rfl rfl 0 (by decide) q1 (fun _ h9 => h9) rfl dX1_putSetting_6 ?_
    refine va_alen (v := nI 7) hx hb hK hP 1 0 rfl rfl rfl dX1_putSetting_9 ?_
    refine lv_icmp_ge (tgt := 20) hx hb dX1_putSetting_10 (by decide) (fun c2 => ?_) (fun c2 => ?_)
    · rw [if_pos c2] at hR
      subst hR
      exact krV hx hb hr hlk hP hD hS dX1_putSetting_20 rfl
    · rw [if_neg c2] at hR
      refine lv_aload_n hx hb dX1_putSetting_13 rfl (lv_at hl 0 rfl) ?_
      refine va_get (D := D) (ci := 1) (v := .ref (ad 1)) (C := RX1) (T := TX1) (N := 16) hx hb hts hinX1 hown hK hP 0 rfl rfl 0 (by decide) q1 (fun _ h9 => h9) rfl dX1_putSetting_14 ?_
      refine lv_iload_n hx hb dX1_putSetting_17 rfl (lv_at hl 1 rfl) ?_
      refine lv_iload_n hx hb dX1_putSetting_18 rfl (lv_at hl 2 rfl) ?_
      refine va_iast hx hb hK hP hD hS 1 0 rfl rfl (kin_of c1 c2 (by decide)) dX1_putSetting_19 (fun H locs hP hD hS => ?_)
      have hP : va_P D vwCl (stW cI ad (va_up S 0 (upd (S 0) (x1).toNatClampNeg x2))) H := hP
      have hD : va_D A (stW cI ad (va_up S 0 (upd (S 0) (x1).toNatClampNeg x2))) := hD
      subst hR
      exact krV hx hb hr hlk hP hD hS dX1_putSetting_20 rfl

theorem hdX1_place : yX1_place.cls = RX1 ∧ yX1_place.cls ≠ "java/lang/invoke/MethodHandle" ∧ yX1_place.cls ≠ "java/lang/invoke/VarHandle" ∧ (parseMethodDescriptor yX1_place.desc).map (fun d => d.parameters.length) = some 1 := by decide +kernel
def fx1_place (S : St) (x1 : Int32) : Int32 := (if x1 < 0 then 0 else (if (nI 5) ≤ x1 then 0 else (S 1) (x1).toNatClampNeg))
set_option maxHeartbeats 4000000 in
set_option maxRecDepth 100000 in
theorem cx1_place {l : Launch} {D : va_G} {cI cB cS cJ : ClassId} {K : State → Prop} (E : kE D cI cB cS cJ K) (ad : Nat → Nat) (S : St) (x1 : Int32) : kI l D K yX1_place wsX1_place 0 0 [.ref (ad 0), .int x1] (stW cI ad S) (fx1_place S x1) (stW cI ad S) := by
  refine kI_of (own := RX1) (cc := cX1_place) (maxL := 2) (tys := kty cI cB cS cJ) (fun U h => (E.2 U h).1) (by decide) rfl rfl (Nat.le_of_ble_eq_true rfl) ?_
  intro p e s m below meth c A ls hx hb hr hml hts hown hlk hKs hK hP hD hA hS hl
  have hl : lv_has ls 2 [(0, .ref (ad 0)), (1, .int x1)] := hl
  have hX : CallFix p m c cX1_place 2 s _ wsX1_place RX1 := ⟨hx, hb, hml, hown, hts⟩
  have hinX1 : ∀ w ∈ wsX10, w ∈ wsX1_place := fun w h => List.mem_cons_of_mem _ (List.mem_append_right _ h)
  have q1 := hts (.fieldLink RX1 15 "LabelStation$State" "places" "[I") (List.mem_of_getElem? (i := 1) rfl)
  generalize hR : fx1_place S x1 = R
  rw [fx1_place] at hR
  refine lv_iload_n hx hb dX1_place_0 rfl (lv_at hl 1 rfl) ?_
  refine lv_if_lt (tgt := 22) hx hb dX1_place_1 (by decide) (fun c1 => ?_) (fun c1 => ?_)
  · rw [if_pos c1] at hR
    refine lv_iconst (v := 0) hx hb dX1_place_22 (by decide) ?_
    subst hR
    exact krI hx hb hr hlk hP hD hS dX1_place_23 rfl rfl
  · rw [if_neg c1] at hR
    refine lv_iload_n hx hb dX1_place_4 rfl (lv_at hl 1 rfl) ?_
    refine lv_aload_n hx hb dX1_place_5 rfl (lv_at hl 0 rfl) ?_
    refine va_get (D := D) (ci := 1) (v := .ref (ad 2)) (C := RX1) (T := TX1) (N := 16) hx hb hts hinX1 hown hK hP 0 rfl rfl 1 (by decide) q1 (fun _ h9 => h9) rfl dX1_place_6 ?_
    refine va_alen (v := nI 5) hx hb hK hP 2 0 rfl rfl rfl dX1_place_9 ?_
    refine lv_icmp_ge (tgt := 22) hx hb dX1_place_10 (by decide) (fun c2 => ?_) (fun c2 => ?_)
    · rw [if_pos c2] at hR
      refine lv_iconst (v := 0) hx hb dX1_place_22 (by decide) ?_
      subst hR
      exact krI hx hb hr hlk hP hD hS dX1_place_23 rfl rfl
    · rw [if_neg c2] at hR
      refine lv_aload_n hx hb dX1_place_13 rfl (lv_at hl 0 rfl) ?_
      refine va_get (D := D) (ci := 1) (v := .ref (ad 2)) (C := RX1) (T := TX1) (N := 16) hx hb hts hinX1 hown hK hP 0 rfl rfl 1 (by decide) q1 (fun _ h9 => h9) rfl dX1_place_14 ?_
      refine lv_iload_n hx hb dX1_place_17 rfl (lv_at hl 1 rfl) ?_
      refine va_iald hx hb hK hP 2 0 rfl rfl (kin_of c1 c2 (by decide)) dX1_place_18 ?_
      refine lv_goto (tgt := 23) hx hb dX1_place_19 (by decide) ?_
      subst hR
      exact krI hx hb hr hlk hP hD hS dX1_place_23 rfl rfl

theorem hdX1_putPlace : yX1_putPlace.cls = RX1 ∧ yX1_putPlace.cls ≠ "java/lang/invoke/MethodHandle" ∧ yX1_putPlace.cls ≠ "java/lang/invoke/VarHandle" ∧ (parseMethodDescriptor yX1_putPlace.desc).map (fun d => d.parameters.length) = some 2 := by decide +kernel
def fx1_putPlace (S : St) (x1 : Int32) (x2 : Int32) : St := (if x1 < 0 then S else (if (nI 5) ≤ x1 then S else va_up S 1 (upd (S 1) (x1).toNatClampNeg x2)))
set_option maxHeartbeats 4000000 in
set_option maxRecDepth 100000 in
theorem cx1_putPlace {l : Launch} {D : va_G} {cI cB cS cJ : ClassId} {K : State → Prop} (E : kE D cI cB cS cJ K) (ad : Nat → Nat) (S : St) (x1 : Int32) (x2 : Int32) : kV l D K yX1_putPlace wsX1_putPlace 0 0 [.ref (ad 0), .int x1, .int x2] (stW cI ad S)  (stW cI ad (fx1_putPlace S x1 x2)) := by
  refine kV_of (own := RX1) (cc := cX1_putPlace) (maxL := 3) (tys := kty cI cB cS cJ) (fun U h => (E.2 U h).1) (by decide) rfl rfl (Nat.le_of_ble_eq_true rfl) ?_
  intro p e s m below meth c A ls hx hb hr hml hts hown hlk hKs hK hP hD hA hS hl
  have hl : lv_has ls 3 [(0, .ref (ad 0)), (1, .int x1), (2, .int x2)] := hl
  have hX : CallFix p m c cX1_putPlace 3 s _ wsX1_putPlace RX1 := ⟨hx, hb, hml, hown, hts⟩
  have hinX1 : ∀ w ∈ wsX10, w ∈ wsX1_putPlace := fun w h => List.mem_cons_of_mem _ (List.mem_append_right _ h)
  have q1 := hts (.fieldLink RX1 15 "LabelStation$State" "places" "[I") (List.mem_of_getElem? (i := 1) rfl)
  generalize hR : fx1_putPlace S x1 x2 = R
  rw [fx1_putPlace] at hR
  refine lv_iload_n hx hb dX1_putPlace_0 rfl (lv_at hl 1 rfl) ?_
  refine lv_if_lt (tgt := 20) hx hb dX1_putPlace_1 (by decide) (fun c1 => ?_) (fun c1 => ?_)
  · rw [if_pos c1] at hR
    subst hR
    exact krV hx hb hr hlk hP hD hS dX1_putPlace_20 rfl
  · rw [if_neg c1] at hR
    refine lv_iload_n hx hb dX1_putPlace_4 rfl (lv_at hl 1 rfl) ?_
    refine lv_aload_n hx hb dX1_putPlace_5 rfl (lv_at hl 0 rfl) ?_
    refine va_get (D := D) (ci := 1) (v := .ref (ad 2)) (C := RX1) (T := TX1) (N := 16) hx hb hts hinX1 hown hK hP 0 rfl rfl 1 (by decide) q1 (fun _ h9 => h9) rfl dX1_putPlace_6 ?_
    refine va_alen (v := nI 5) hx hb hK hP 2 0 rfl rfl rfl dX1_putPlace_9 ?_
    refine lv_icmp_ge (tgt := 20) hx hb dX1_putPlace_10 (by decide) (fun c2 => ?_) (fun c2 => ?_)
    · rw [if_pos c2] at hR
      subst hR
      exact krV hx hb hr hlk hP hD hS dX1_putPlace_20 rfl
    · rw [if_neg c2] at hR
      refine lv_aload_n hx hb dX1_putPlace_13 rfl (lv_at hl 0 rfl) ?_
      refine va_get (D := D) (ci := 1) (v := .ref (ad 2)) (C := RX1) (T := TX1) (N := 16) hx hb hts hinX1 hown hK hP 0 rfl rfl 1 (by decide) q1 (fun _ h9 => h9) rfl dX1_putPlace_14 ?_
      refine lv_iload_n hx hb dX1_putPlace_17 rfl (lv_at hl 1 rfl) ?_
      refine lv_iload_n hx hb dX1_putPlace_18 rfl (lv_at hl 2 rfl) ?_
      refine va_iast hx hb hK hP hD hS 2 0 rfl rfl (kin_of c1 c2 (by decide)) dX1_putPlace_19 (fun H locs hP hD hS => ?_)
      have hP : va_P D vwCl (stW cI ad (va_up S 1 (upd (S 1) (x1).toNatClampNeg x2))) H := hP
      have hD : va_D A (stW cI ad (va_up S 1 (upd (S 1) (x1).toNatClampNeg x2))) := hD
      subst hR
      exact krV hx hb hr hlk hP hD hS dX1_putPlace_20 rfl

theorem hdX1_counted : yX1_counted.cls = RX1 ∧ yX1_counted.cls ≠ "java/lang/invoke/MethodHandle" ∧ yX1_counted.cls ≠ "java/lang/invoke/VarHandle" ∧ (parseMethodDescriptor yX1_counted.desc).map (fun d => d.parameters.length) = some 1 := by decide +kernel
def fx1_counted (S : St) (x1 : Int32) : Int32 := (if x1 < 0 then 0 else (if (nI 18) ≤ x1 then 0 else (S 2) (x1).toNatClampNeg))
set_option maxHeartbeats 4000000 in
set_option maxRecDepth 100000 in
theorem cx1_counted {l : Launch} {D : va_G} {cI cB cS cJ : ClassId} {K : State → Prop} (E : kE D cI cB cS cJ K) (ad : Nat → Nat) (S : St) (x1 : Int32) : kI l D K yX1_counted wsX1_counted 0 0 [.ref (ad 0), .int x1] (stW cI ad S) (fx1_counted S x1) (stW cI ad S) := by
  refine kI_of (own := RX1) (cc := cX1_counted) (maxL := 2) (tys := kty cI cB cS cJ) (fun U h => (E.2 U h).1) (by decide) rfl rfl (Nat.le_of_ble_eq_true rfl) ?_
  intro p e s m below meth c A ls hx hb hr hml hts hown hlk hKs hK hP hD hA hS hl
  have hl : lv_has ls 2 [(0, .ref (ad 0)), (1, .int x1)] := hl
  have hX : CallFix p m c cX1_counted 2 s _ wsX1_counted RX1 := ⟨hx, hb, hml, hown, hts⟩
  have hinX1 : ∀ w ∈ wsX10, w ∈ wsX1_counted := fun w h => List.mem_cons_of_mem _ (List.mem_append_right _ h)
  have q1 := hts (.fieldLink RX1 18 "LabelStation$State" "counters" "[I") (List.mem_of_getElem? (i := 1) rfl)
  generalize hR : fx1_counted S x1 = R
  rw [fx1_counted] at hR
  refine lv_iload_n hx hb dX1_counted_0 rfl (lv_at hl 1 rfl) ?_
  refine lv_if_lt (tgt := 22) hx hb dX1_counted_1 (by decide) (fun c1 => ?_) (fun c1 => ?_)
  · rw [if_pos c1] at hR
    refine lv_iconst (v := 0) hx hb dX1_counted_22 (by decide) ?_
    subst hR
    exact krI hx hb hr hlk hP hD hS dX1_counted_23 rfl rfl
  · rw [if_neg c1] at hR
    refine lv_iload_n hx hb dX1_counted_4 rfl (lv_at hl 1 rfl) ?_
    refine lv_aload_n hx hb dX1_counted_5 rfl (lv_at hl 0 rfl) ?_
    refine va_get (D := D) (ci := 1) (v := .ref (ad 3)) (C := RX1) (T := TX1) (N := 16) hx hb hts hinX1 hown hK hP 0 rfl rfl 2 (by decide) q1 (fun _ h9 => h9) rfl dX1_counted_6 ?_
    refine va_alen (v := nI 18) hx hb hK hP 3 0 rfl rfl rfl dX1_counted_9 ?_
    refine lv_icmp_ge (tgt := 22) hx hb dX1_counted_10 (by decide) (fun c2 => ?_) (fun c2 => ?_)
    · rw [if_pos c2] at hR
      refine lv_iconst (v := 0) hx hb dX1_counted_22 (by decide) ?_
      subst hR
      exact krI hx hb hr hlk hP hD hS dX1_counted_23 rfl rfl
    · rw [if_neg c2] at hR
      refine lv_aload_n hx hb dX1_counted_13 rfl (lv_at hl 0 rfl) ?_
      refine va_get (D := D) (ci := 1) (v := .ref (ad 3)) (C := RX1) (T := TX1) (N := 16) hx hb hts hinX1 hown hK hP 0 rfl rfl 2 (by decide) q1 (fun _ h9 => h9) rfl dX1_counted_14 ?_
      refine lv_iload_n hx hb dX1_counted_17 rfl (lv_at hl 1 rfl) ?_
      refine va_iald hx hb hK hP 3 0 rfl rfl (kin_of c1 c2 (by decide)) dX1_counted_18 ?_
      refine lv_goto (tgt := 23) hx hb dX1_counted_19 (by decide) ?_
      subst hR
      exact krI hx hb hr hlk hP hD hS dX1_counted_23 rfl rfl

theorem hdX1_count : yX1_count.cls = RX1 ∧ yX1_count.cls ≠ "java/lang/invoke/MethodHandle" ∧ yX1_count.cls ≠ "java/lang/invoke/VarHandle" ∧ (parseMethodDescriptor yX1_count.desc).map (fun d => d.parameters.length) = some 1 := by decide +kernel
def fx1_count (S : St) (x1 : Int32) : St := (if x1 < 0 then S else (if (nI 18) ≤ x1 then S else va_up S 2 (upd (S 2) (x1).toNatClampNeg (((S 2) (x1).toNatClampNeg) + 1))))
set_option maxHeartbeats 4000000 in
set_option maxRecDepth 100000 in
theorem cx1_count {l : Launch} {D : va_G} {cI cB cS cJ : ClassId} {K : State → Prop} (E : kE D cI cB cS cJ K) (ad : Nat → Nat) (S : St) (x1 : Int32) : kV l D K yX1_count wsX1_count 0 0 [.ref (ad 0), .int x1] (stW cI ad S)  (stW cI ad (fx1_count S x1)) := by
  refine kV_of (own := RX1) (cc := cX1_count) (maxL := 2) (tys := kty cI cB cS cJ) (fun U h => (E.2 U h).1) (by decide) rfl rfl (Nat.le_of_ble_eq_true rfl) ?_
  intro p e s m below meth c A ls hx hb hr hml hts hown hlk hKs hK hP hD hA hS hl
  have hl : lv_has ls 2 [(0, .ref (ad 0)), (1, .int x1)] := hl
  have hX : CallFix p m c cX1_count 2 s _ wsX1_count RX1 := ⟨hx, hb, hml, hown, hts⟩
  have hinX1 : ∀ w ∈ wsX10, w ∈ wsX1_count := fun w h => List.mem_cons_of_mem _ (List.mem_append_right _ h)
  have q1 := hts (.fieldLink RX1 18 "LabelStation$State" "counters" "[I") (List.mem_of_getElem? (i := 1) rfl)
  generalize hR : fx1_count S x1 = R
  rw [fx1_count] at hR
  refine lv_iload_n hx hb dX1_count_0 rfl (lv_at hl 1 rfl) ?_
  refine lv_if_lt (tgt := 23) hx hb dX1_count_1 (by decide) (fun c1 => ?_) (fun c1 => ?_)
  · rw [if_pos c1] at hR
    subst hR
    exact krV hx hb hr hlk hP hD hS dX1_count_23 rfl
  · rw [if_neg c1] at hR
    refine lv_iload_n hx hb dX1_count_4 rfl (lv_at hl 1 rfl) ?_
    refine lv_aload_n hx hb dX1_count_5 rfl (lv_at hl 0 rfl) ?_
    refine va_get (D := D) (ci := 1) (v := .ref (ad 3)) (C := RX1) (T := TX1) (N := 16) hx hb hts hinX1 hown hK hP 0 rfl rfl 2 (by decide) q1 (fun _ h9 => h9) rfl dX1_count_6 ?_
    refine va_alen (v := nI 18) hx hb hK hP 3 0 rfl rfl rfl dX1_count_9 ?_
    refine lv_icmp_ge (tgt := 23) hx hb dX1_count_10 (by decide) (fun c2 => ?_) (fun c2 => ?_)
    · rw [if_pos c2] at hR
      subst hR
      exact krV hx hb hr hlk hP hD hS dX1_count_23 rfl
    · rw [if_neg c2] at hR
      refine lv_aload_n hx hb dX1_count_13 rfl (lv_at hl 0 rfl) ?_
      refine va_get (D := D) (ci := 1) (v := .ref (ad 3)) (C := RX1) (T := TX1) (N := 16) hx hb hts hinX1 hown hK hP 0 rfl rfl 2 (by decide) q1 (fun _ h9 => h9) rfl dX1_count_14 ?_
      refine lv_iload_n hx hb dX1_count_17 rfl (lv_at hl 1 rfl) ?_
      refine lv_dup2_11 hx hb dX1_count_18 rfl rfl ?_
      refine va_iald hx hb hK hP 3 0 rfl rfl (kin_of c1 c2 (by decide)) dX1_count_19 ?_
      refine lv_iconst (v := 1) hx hb dX1_count_20 (by decide) ?_
      refine lv_iadd hx hb dX1_count_21 ?_
      refine va_iast hx hb hK hP hD hS 3 0 rfl rfl (kin_of c1 c2 (by decide)) dX1_count_22 (fun H locs hP hD hS => ?_)
      have hP : va_P D vwCl (stW cI ad (va_up S 2 (upd (S 2) (x1).toNatClampNeg (((S 2) (x1).toNatClampNeg) + 1)))) H := hP
      have hD : va_D A (stW cI ad (va_up S 2 (upd (S 2) (x1).toNatClampNeg (((S 2) (x1).toNatClampNeg) + 1)))) := hD
      subst hR
      exact krV hx hb hr hlk hP hD hS dX1_count_23 rfl

theorem hdX1_valueOf : yX1_valueOf.cls = RX1 ∧ yX1_valueOf.cls ≠ "java/lang/invoke/MethodHandle" ∧ yX1_valueOf.cls ≠ "java/lang/invoke/VarHandle" ∧ (parseMethodDescriptor yX1_valueOf.desc).map (fun d => d.parameters.length) = some 1 := by decide +kernel
def fx1_valueOf (S : St) (x1 : Int32) : Int32 := (if x1 = 12 then S 3 4 else (if (nI 7) ≤ x1 then fx1_place S (x1 - (nI 7)) else fx1_setting S x1))
set_option maxHeartbeats 4000000 in
set_option maxRecDepth 100000 in
theorem cx1_valueOf {l : Launch} {D : va_G} {cI cB cS cJ : ClassId} {K : State → Prop} (E : kE D cI cB cS cJ K) (ad : Nat → Nat) (S : St) (x1 : Int32) : kI l D K yX1_valueOf wsX1_valueOf 1 21 [.ref (ad 0), .int x1] (stW cI ad S) (fx1_valueOf S x1) (stW cI ad S) := by
  refine kI_of (own := RX1) (cc := cX1_valueOf) (maxL := 2) (tys := kty cI cB cS cJ) (fun U h => (E.2 U h).1) (by decide) rfl rfl (Nat.le_of_ble_eq_true rfl) ?_
  intro p e s m below meth c A ls hx hb hr hml hts hown hlk hKs hK hP hD hA hS hl
  have hl : lv_has ls 2 [(0, .ref (ad 0)), (1, .int x1)] := hl
  have hX : CallFix p m c cX1_valueOf 2 s _ wsX1_valueOf RX1 := ⟨hx, hb, hml, hown, hts⟩
  have hinX1 : ∀ w ∈ wsX10, w ∈ wsX1_valueOf := fun w h => List.mem_cons_of_mem _ (List.mem_append_right _ h)
  have q1 := hts (.fieldLink RX1 56 "LabelStation$State" "consecutiveRejects" "I") (List.mem_of_getElem? (i := 1) rfl)
  have q2 := hts (.fieldLink RX1 9 "LabelStation$State" "settings" "[I") (List.mem_of_getElem? (i := 2) rfl)
  generalize hR : fx1_valueOf S x1 = R
  rw [fx1_valueOf] at hR
  refine lv_iload_n hx hb dX1_valueOf_0 rfl (lv_at hl 1 rfl) ?_
  refine lv_bipush (v := 12) hx hb dX1_valueOf_1 (by decide) ?_
  refine lv_icmp_ne (tgt := 11) hx hb dX1_valueOf_3 (by decide) (fun c1 => ?_) (fun c1 => ?_)
  · rw [if_neg c1] at hR
    refine lv_iload_n hx hb dX1_valueOf_11 rfl (lv_at hl 1 rfl) ?_
    refine lv_aload_n hx hb dX1_valueOf_12 rfl (lv_at hl 0 rfl) ?_
    refine va_get (D := D) (ci := 1) (v := .ref (ad 1)) (C := RX1) (T := TX1) (N := 16) hx hb hts hinX1 hown hK hP 0 rfl rfl 0 (by decide) q2 (fun _ h9 => h9) rfl dX1_valueOf_13 ?_
    refine va_alen (v := nI 7) hx hb hK hP 1 0 rfl rfl rfl dX1_valueOf_16 ?_
    refine lv_icmp_ge (tgt := 28) hx hb dX1_valueOf_17 (by decide) (fun c2 => ?_) (fun c2 => ?_)
    · rw [if_pos c2] at hR
      refine lv_aload_n hx hb dX1_valueOf_28 rfl (lv_at hl 0 rfl) ?_
      refine lv_iload_n hx hb dX1_valueOf_29 rfl (lv_at hl 1 rfl) ?_
      refine lv_aload_n hx hb dX1_valueOf_30 rfl (lv_at hl 0 rfl) ?_
      refine va_get (D := D) (ci := 1) (v := .ref (ad 1)) (C := RX1) (T := TX1) (N := 16) hx hb hts hinX1 hown hK hP 0 rfl rfl 0 (by decide) q2 (fun _ h9 => h9) rfl dX1_valueOf_31 ?_
      refine va_alen (v := nI 7) hx hb hK hP 1 0 rfl rfl rfl dX1_valueOf_34 ?_
      refine lv_isub hx hb dX1_valueOf_35 ?_
      refine kcI (ci := 1) (q0 := 0) (As := [.int (x1 - (nI 7))]) (rest := []) E.1 (cx1_place E ad S (x1 - (nI 7))) hX (cwV 1 hts gX1_valueOf_X1_place rfl rfl rfl hdX1_place ⟨Nat.le_of_ble_eq_true rfl, Nat.le_of_ble_eq_true rfl⟩) hKs hK hP hD hS hA _ _ (kw_self _) (kw_self _).symm rfl rfl rfl rfl hl.1 (Nat.le_of_ble_eq_true rfl) dX1_valueOf_36 ⟨Nat.zero_le _, Nat.zero_le _⟩ (fun H locs hP hD hS => ?_)
      subst hR
      exact krI hx hb hr hlk hP hD hS dX1_valueOf_39 rfl rfl
    · rw [if_neg c2] at hR
      refine lv_aload_n hx hb dX1_valueOf_20 rfl (lv_at hl 0 rfl) ?_
      refine lv_iload_n hx hb dX1_valueOf_21 rfl (lv_at hl 1 rfl) ?_
      refine kcI (ci := 1) (q0 := 0) (As := [.int x1]) (rest := []) E.1 (cx1_setting E ad S x1) hX (cwV 1 hts gX1_valueOf_X1_setting rfl rfl rfl hdX1_setting ⟨Nat.le_of_ble_eq_true rfl, Nat.le_of_ble_eq_true rfl⟩) hKs hK hP hD hS hA _ _ (kw_self _) (kw_self _).symm rfl rfl rfl rfl hl.1 (Nat.le_of_ble_eq_true rfl) dX1_valueOf_22 ⟨Nat.zero_le _, Nat.zero_le _⟩ (fun H locs hP hD hS => ?_)
      refine lv_goto (tgt := 39) hx hb dX1_valueOf_25 (by decide) ?_
      subst hR
      exact krI hx hb hr hlk hP hD hS dX1_valueOf_39 rfl rfl
  · rw [if_pos c1] at hR
    refine lv_aload_n hx hb dX1_valueOf_6 rfl (lv_at hl 0 rfl) ?_
    refine va_get (D := D) (ci := 1) (v := .int (S 3 4)) (C := RX1) (T := TX1) (N := 16) hx hb hts hinX1 hown hK hP 0 rfl rfl 12 (by decide) q1 (fun _ h9 => h9) rfl dX1_valueOf_7 ?_
    subst hR
    exact krI hx hb hr hlk hP hD hS dX1_valueOf_10 rfl rfl

theorem hdX1_statusOf : yX1_statusOf.cls = RX1 ∧ yX1_statusOf.cls ≠ "java/lang/invoke/MethodHandle" ∧ yX1_statusOf.cls ≠ "java/lang/invoke/VarHandle" ∧ (parseMethodDescriptor yX1_statusOf.desc).map (fun d => d.parameters.length) = some 1 := by decide +kernel
def fx1_statusOf (S : St) (x1 : Int32) : Int32 := (if x1 = 0 then S 3 0 else (if x1 = 1 then (if (S 3 1) = 0 then 0 else 1) else (if x1 = 2 then S 3 2 else (if x1 = 3 then fx2_count 4 20 80 (stT S 0) else (if x1 = 4 then fx2_count 6 35 210 (stT S 1) else (if x1 = 5 then fx2_count 4 200 800 (stT S 2) else (if x1 = 6 then fx2_count 1 101 101 (stT S 4) else fx2_count 1 50 50 (stT S 3))))))))
set_option maxHeartbeats 4000000 in
set_option maxRecDepth 100000 in
theorem cx1_statusOf {l : Launch} {D : va_G} {cI cB cS cJ : ClassId} {K : State → Prop} (E : kE D cI cB cS cJ K) (ad : Nat → Nat) (S : St) (x1 : Int32) : kI l D K yX1_statusOf wsX1_statusOf 1 20 [.ref (ad 0), .int x1] (stW cI ad S) (fx1_statusOf S x1) (stW cI ad S) := by
  refine kI_of (own := RX1) (cc := cX1_statusOf) (maxL := 2) (tys := kty cI cB cS cJ) (fun U h => (E.2 U h).1) (by decide) rfl rfl (Nat.le_of_ble_eq_true rfl) ?_
  intro p e s m below meth c A ls hx hb hr hml hts hown hlk hKs hK hP hD hA hS hl
  have hl : lv_has ls 2 [(0, .ref (ad 0)), (1, .int x1)] := hl
  have hX : CallFix p m c cX1_statusOf 2 s _ wsX1_statusOf RX1 := ⟨hx, hb, hml, hown, hts⟩
  have hinX1 : ∀ w ∈ wsX10, w ∈ wsX1_statusOf := fun w h => List.mem_cons_of_mem _ (List.mem_append_left _ (List.mem_append_right _ h))
  have q1 := hts (.fieldLink RX1 42 "LabelStation$State" "tick" "I") (List.mem_of_getElem? (i := 1) rfl)
  have q2 := hts (.fieldLink RX1 46 "LabelStation$State" "running" "Z") (List.mem_of_getElem? (i := 2) rfl)
  have q3 := hts (.fieldLink RX1 50 "LabelStation$State" "alarm" "I") (List.mem_of_getElem? (i := 3) rfl)
  have q4 := hts (.fieldLink RX1 26 "LabelStation$State" "items" "LLabelStation$Table;") (List.mem_of_getElem? (i := 4) rfl)
  have q5 := hts (.fieldLink RX1 30 "LabelStation$State" "records" "LLabelStation$Table;") (List.mem_of_getElem? (i := 5) rfl)
  have q6 := hts (.fieldLink RX1 33 "LabelStation$State" "verdicts" "LLabelStation$Table;") (List.mem_of_getElem? (i := 6) rfl)
  have q7 := hts (.fieldLink RX1 39 "LabelStation$State" "expectations" "LLabelStation$Table;") (List.mem_of_getElem? (i := 7) rfl)
  have q8 := hts (.fieldLink RX1 36 "LabelStation$State" "binArrivals" "LLabelStation$Table;") (List.mem_of_getElem? (i := 8) rfl)
  generalize hR : fx1_statusOf S x1 = R
  rw [fx1_statusOf] at hR
  refine lv_iload_n hx hb dX1_statusOf_0 rfl (lv_at hl 1 rfl) ?_
  rcases Classical.em (x1 = 0) with c1 | c1
  · rw [if_pos c1] at hR
    refine lv_tableIn (tgt := 44) (off := 43) hx hb dX1_statusOf_1 (by rw [c1]; decide) (by rw [c1]; decide) (by rw [c1]; rfl) (by decide) ?_
    refine lv_aload_n hx hb dX1_statusOf_44 rfl (lv_at hl 0 rfl) ?_
    refine va_get (D := D) (ci := 1) (v := .int (S 3 0)) (C := RX1) (T := TX1) (N := 16) hx hb hts hinX1 hown hK hP 0 rfl rfl 8 (by decide) q1 (fun _ h9 => h9) rfl dX1_statusOf_45 ?_
    subst hR
    exact krI hx hb hr hlk hP hD hS dX1_statusOf_48 rfl rfl
  · rw [if_neg c1] at hR
    rcases Classical.em (x1 = 1) with c2 | c2
    · rw [if_pos c2] at hR
      refine lv_tableIn (tgt := 49) (off := 48) hx hb dX1_statusOf_1 (by rw [c2]; decide) (by rw [c2]; decide) (by rw [c2]; rfl) (by decide) ?_
      refine lv_aload_n hx hb dX1_statusOf_49 rfl (lv_at hl 0 rfl) ?_
      refine va_get (D := D) (ci := 1) (v := .int (S 3 1)) (C := RX1) (T := TX1) (N := 16) hx hb hts hinX1 hown hK hP 0 rfl rfl 9 (by decide) q2 (fun _ h9 => h9) rfl dX1_statusOf_50 ?_
      refine lv_if_eq (tgt := 60) hx hb dX1_statusOf_53 (by decide) (fun c3 => ?_) (fun c3 => ?_)
      · rw [if_pos c3] at hR
        refine lv_iconst (v := 0) hx hb dX1_statusOf_60 (by decide) ?_
        subst hR
        exact krI hx hb hr hlk hP hD hS dX1_statusOf_61 rfl rfl
      · rw [if_neg c3] at hR
        refine lv_iconst (v := 1) hx hb dX1_statusOf_56 (by decide) ?_
        refine lv_goto (tgt := 61) hx hb dX1_statusOf_57 (by decide) ?_
        subst hR
        exact krI hx hb hr hlk hP hD hS dX1_statusOf_61 rfl rfl
    · rw [if_neg c2] at hR
      rcases Classical.em (x1 = 2) with c4 | c4
      · rw [if_pos c4] at hR
        refine lv_tableIn (tgt := 62) (off := 61) hx hb dX1_statusOf_1 (by rw [c4]; decide) (by rw [c4]; decide) (by rw [c4]; rfl) (by decide) ?_
        refine lv_aload_n hx hb dX1_statusOf_62 rfl (lv_at hl 0 rfl) ?_
        refine va_get (D := D) (ci := 1) (v := .int (S 3 2)) (C := RX1) (T := TX1) (N := 16) hx hb hts hinX1 hown hK hP 0 rfl rfl 10 (by decide) q3 (fun _ h9 => h9) rfl dX1_statusOf_63 ?_
        subst hR
        exact krI hx hb hr hlk hP hD hS dX1_statusOf_66 rfl rfl
      · rw [if_neg c4] at hR
        rcases Classical.em (x1 = 3) with c5 | c5
        · rw [if_pos c5] at hR
          refine lv_tableIn (tgt := 67) (off := 66) hx hb dX1_statusOf_1 (by rw [c5]; decide) (by rw [c5]; decide) (by rw [c5]; rfl) (by decide) ?_
          refine lv_aload_n hx hb dX1_statusOf_67 rfl (lv_at hl 0 rfl) ?_
          refine va_get (D := D) (ci := 1) (v := .ref (ad 4)) (C := RX1) (T := TX1) (N := 16) hx hb hts hinX1 hown hK hP 0 rfl rfl 3 (by decide) q4 (fun _ h9 => h9) rfl dX1_statusOf_68 ?_
          refine kcI (ci := 2) (q0 := 0) (As := []) (rest := []) E.1 (cx2_count E (ad 4) (ad 5) 4 20 80 (by decide) (stT S 0)) hX (cwV 0 hts gX1_statusOf_X2_count rfl rfl rfl hdX2_count ⟨Nat.le_of_ble_eq_true rfl, Nat.le_of_ble_eq_true rfl⟩) hKs hK hP hD hS hA _ _ (st_tb0 cI ad S) (st_tb0 cI ad S).symm rfl rfl rfl rfl hl.1 (Nat.le_of_ble_eq_true rfl) dX1_statusOf_71 ⟨Nat.zero_le _, Nat.zero_le _⟩ (fun H locs hP hD hS => ?_)
          subst hR
          exact krI hx hb hr hlk hP hD hS dX1_statusOf_74 rfl rfl
        · rw [if_neg c5] at hR
          rcases Classical.em (x1 = 4) with c6 | c6
          · rw [if_pos c6] at hR
            refine lv_tableIn (tgt := 75) (off := 74) hx hb dX1_statusOf_1 (by rw [c6]; decide) (by rw [c6]; decide) (by rw [c6]; rfl) (by decide) ?_
            refine lv_aload_n hx hb dX1_statusOf_75 rfl (lv_at hl 0 rfl) ?_
            refine va_get (D := D) (ci := 1) (v := .ref (ad 6)) (C := RX1) (T := TX1) (N := 16) hx hb hts hinX1 hown hK hP 0 rfl rfl 4 (by decide) q5 (fun _ h9 => h9) rfl dX1_statusOf_76 ?_
            refine kcI (ci := 2) (q0 := 0) (As := []) (rest := []) E.1 (cx2_count E (ad 6) (ad 7) 6 35 210 (by decide) (stT S 1)) hX (cwV 0 hts gX1_statusOf_X2_count rfl rfl rfl hdX2_count ⟨Nat.le_of_ble_eq_true rfl, Nat.le_of_ble_eq_true rfl⟩) hKs hK hP hD hS hA _ _ (st_tb1 cI ad S) (st_tb1 cI ad S).symm rfl rfl rfl rfl hl.1 (Nat.le_of_ble_eq_true rfl) dX1_statusOf_79 ⟨Nat.zero_le _, Nat.zero_le _⟩ (fun H locs hP hD hS => ?_)
            subst hR
            exact krI hx hb hr hlk hP hD hS dX1_statusOf_82 rfl rfl
          · rw [if_neg c6] at hR
            rcases Classical.em (x1 = 5) with c7 | c7
            · rw [if_pos c7] at hR
              refine lv_tableIn (tgt := 83) (off := 82) hx hb dX1_statusOf_1 (by rw [c7]; decide) (by rw [c7]; decide) (by rw [c7]; rfl) (by decide) ?_
              refine lv_aload_n hx hb dX1_statusOf_83 rfl (lv_at hl 0 rfl) ?_
              refine va_get (D := D) (ci := 1) (v := .ref (ad 8)) (C := RX1) (T := TX1) (N := 16) hx hb hts hinX1 hown hK hP 0 rfl rfl 5 (by decide) q6 (fun _ h9 => h9) rfl dX1_statusOf_84 ?_
              refine kcI (ci := 2) (q0 := 0) (As := []) (rest := []) E.1 (cx2_count E (ad 8) (ad 9) 4 200 800 (by decide) (stT S 2)) hX (cwV 0 hts gX1_statusOf_X2_count rfl rfl rfl hdX2_count ⟨Nat.le_of_ble_eq_true rfl, Nat.le_of_ble_eq_true rfl⟩) hKs hK hP hD hS hA _ _ (st_tb2 cI ad S) (st_tb2 cI ad S).symm rfl rfl rfl rfl hl.1 (Nat.le_of_ble_eq_true rfl) dX1_statusOf_87 ⟨Nat.zero_le _, Nat.zero_le _⟩ (fun H locs hP hD hS => ?_)
              subst hR
              exact krI hx hb hr hlk hP hD hS dX1_statusOf_90 rfl rfl
            · rw [if_neg c7] at hR
              rcases Classical.em (x1 = 6) with c8 | c8
              · rw [if_pos c8] at hR
                refine lv_tableIn (tgt := 91) (off := 90) hx hb dX1_statusOf_1 (by rw [c8]; decide) (by rw [c8]; decide) (by rw [c8]; rfl) (by decide) ?_
                refine lv_aload_n hx hb dX1_statusOf_91 rfl (lv_at hl 0 rfl) ?_
                refine va_get (D := D) (ci := 1) (v := .ref (ad 12)) (C := RX1) (T := TX1) (N := 16) hx hb hts hinX1 hown hK hP 0 rfl rfl 7 (by decide) q7 (fun _ h9 => h9) rfl dX1_statusOf_92 ?_
                refine kcI (ci := 2) (q0 := 0) (As := []) (rest := []) E.1 (cx2_count E (ad 12) (ad 13) 1 101 101 (by decide) (stT S 4)) hX (cwV 0 hts gX1_statusOf_X2_count rfl rfl rfl hdX2_count ⟨Nat.le_of_ble_eq_true rfl, Nat.le_of_ble_eq_true rfl⟩) hKs hK hP hD hS hA _ _ (st_tb4 cI ad S) (st_tb4 cI ad S).symm rfl rfl rfl rfl hl.1 (Nat.le_of_ble_eq_true rfl) dX1_statusOf_95 ⟨Nat.zero_le _, Nat.zero_le _⟩ (fun H locs hP hD hS => ?_)
                subst hR
                exact krI hx hb hr hlk hP hD hS dX1_statusOf_98 rfl rfl
              · rw [if_neg c8] at hR
                refine lv_tableOut (tgt := 99) hx hb dX1_statusOf_1 (ksw_out7 c1 c2 c4 c5 c6 c7 c8) (by decide) ?_
                refine lv_aload_n hx hb dX1_statusOf_99 rfl (lv_at hl 0 rfl) ?_
                refine va_get (D := D) (ci := 1) (v := .ref (ad 10)) (C := RX1) (T := TX1) (N := 16) hx hb hts hinX1 hown hK hP 0 rfl rfl 6 (by decide) q8 (fun _ h9 => h9) rfl dX1_statusOf_100 ?_
                refine kcI (ci := 2) (q0 := 0) (As := []) (rest := []) E.1 (cx2_count E (ad 10) (ad 11) 1 50 50 (by decide) (stT S 3)) hX (cwV 0 hts gX1_statusOf_X2_count rfl rfl rfl hdX2_count ⟨Nat.le_of_ble_eq_true rfl, Nat.le_of_ble_eq_true rfl⟩) hKs hK hP hD hS hA _ _ (st_tb3 cI ad S) (st_tb3 cI ad S).symm rfl rfl rfl rfl hl.1 (Nat.le_of_ble_eq_true rfl) dX1_statusOf_103 ⟨Nat.zero_le _, Nat.zero_le _⟩ (fun H locs hP hD hS => ?_)
                subst hR
                exact krI hx hb hr hlk hP hD hS dX1_statusOf_106 rfl rfl

theorem hdX1_hasRoom : yX1_hasRoom.cls = RX1 ∧ yX1_hasRoom.cls ≠ "java/lang/invoke/MethodHandle" ∧ yX1_hasRoom.cls ≠ "java/lang/invoke/VarHandle" ∧ (parseMethodDescriptor yX1_hasRoom.desc).map (fun d => d.parameters.length) = some 0 := by decide +kernel
def fx1_hasRoom (S : St) : Int32 := (if 20 ≤ (fx2_count 4 20 80 (stT S 0)) then 0 else (bnd (fx2_hasBelow 4 20 80 (stT S 0) 1 30) (fun v2 => (if v2 = 0 then (bnd (fx2_hasBelow 6 35 210 (stT S 1) 1 30) (fun v4 => (if v4 = 0 then 1 else 0))) else 0))))
def sx1_hasRoom (S : St) : Prop := (if 20 ≤ (fx2_count 4 20 80 (stT S 0)) then True else (sx2_hasBelow 4 20 80 (stT S 0) 1 30 ∧ (bnd (fx2_hasBelow 4 20 80 (stT S 0) 1 30) (fun v2 => (if v2 = 0 then sx2_hasBelow 6 35 210 (stT S 1) 1 30 else True)))))
set_option maxHeartbeats 4000000 in
set_option maxRecDepth 100000 in
theorem cx1_hasRoom {l : Launch} {D : va_G} {cI cB cS cJ : ClassId} {K : State → Prop} (E : kE D cI cB cS cJ K) (ad : Nat → Nat) (S : St) (hF : sx1_hasRoom S) : kI l D K yX1_hasRoom wsX1_hasRoom 2 46 [.ref (ad 0)] (stW cI ad S) (fx1_hasRoom S) (stW cI ad S) := by
  refine kI_of (own := RX1) (cc := cX1_hasRoom) (maxL := 1) (tys := kty cI cB cS cJ) (fun U h => (E.2 U h).1) (by decide) rfl rfl (Nat.le_of_ble_eq_true rfl) ?_
  intro p e s m below meth c A ls hx hb hr hml hts hown hlk hKs hK hP hD hA hS hl
  have hl : lv_has ls 1 [(0, .ref (ad 0))] := hl
  have hX : CallFix p m c cX1_hasRoom 1 s _ wsX1_hasRoom RX1 := ⟨hx, hb, hml, hown, hts⟩
  have hinX1 : ∀ w ∈ wsX10, w ∈ wsX1_hasRoom := fun w h => List.mem_cons_of_mem _ (List.mem_append_left _ (List.mem_append_right _ h))
  have q1 := hts (.fieldLink RX1 26 "LabelStation$State" "items" "LLabelStation$Table;") (List.mem_of_getElem? (i := 1) rfl)
  have q2 := hts (.fieldLink RX1 30 "LabelStation$State" "records" "LLabelStation$Table;") (List.mem_of_getElem? (i := 2) rfl)
  generalize hR : fx1_hasRoom S = R
  rw [fx1_hasRoom] at hR
  rw [sx1_hasRoom] at hF
  refine lv_aload_n hx hb dX1_hasRoom_0 rfl (lv_at hl 0 rfl) ?_
  refine va_get (D := D) (ci := 1) (v := .ref (ad 4)) (C := RX1) (T := TX1) (N := 16) hx hb hts hinX1 hown hK hP 0 rfl rfl 3 (by decide) q1 (fun _ h9 => h9) rfl dX1_hasRoom_1 ?_
  refine kcI (ci := 2) (q0 := 0) (As := []) (rest := []) E.1 (cx2_count E (ad 4) (ad 5) 4 20 80 (by decide) (stT S 0)) hX (cwV 0 hts gX1_hasRoom_X2_count rfl rfl rfl hdX2_count ⟨Nat.le_of_ble_eq_true rfl, Nat.le_of_ble_eq_true rfl⟩) hKs hK hP hD hS hA _ _ (st_tb0 cI ad S) (st_tb0 cI ad S).symm rfl rfl rfl rfl hl.1 (Nat.le_of_ble_eq_true rfl) dX1_hasRoom_4 ⟨Nat.zero_le _, Nat.zero_le _⟩ (fun H locs hP hD hS => ?_)
  refine lv_bipush (v := 20) hx hb dX1_hasRoom_7 (by decide) ?_
  refine lv_icmp_ge (tgt := 42) hx hb dX1_hasRoom_9 (by decide) (fun c1 => ?_) (fun c1 => ?_)
  · rw [if_pos c1] at hR hF
    refine lv_iconst (v := 0) hx hb dX1_hasRoom_42 (by decide) ?_
    subst hR
    exact krZ hx hb hr hlk hP hD hS dX1_hasRoom_43 (by decide) rfl rfl
  · rw [if_neg c1] at hR hF
    refine lv_aload_n hx hb dX1_hasRoom_12 rfl (lv_at hl 0 rfl) ?_
    refine va_get (D := D) (ci := 1) (v := .ref (ad 4)) (C := RX1) (T := TX1) (N := 16) hx hb hts hinX1 hown hK hP 0 rfl rfl 3 (by decide) q1 (fun _ h9 => h9) rfl dX1_hasRoom_13 ?_
    refine lv_iconst (v := 1) hx hb dX1_hasRoom_16 (by decide) ?_
    refine lv_bipush (v := 30) hx hb dX1_hasRoom_17 (by decide) ?_
    obtain ⟨hs7, hF⟩ := hF
    refine kcI (ci := 2) (q0 := 0) (As := [.int 1, .int 30]) (rest := []) E.1 (cx2_hasBelow E (ad 4) (ad 5) 4 20 80 (by decide) (stT S 0) 1 30 hs7) hX (cwV 2 hts gX1_hasRoom_X2_hasBelow rfl rfl rfl hdX2_hasBelow ⟨Nat.le_of_ble_eq_true rfl, Nat.le_of_ble_eq_true rfl⟩) hKs hK hP hD hS hA _ _ (st_tb0 cI ad S) (st_tb0 cI ad S).symm rfl rfl rfl rfl hl.1 (Nat.le_of_ble_eq_true rfl) dX1_hasRoom_19 ⟨Nat.zero_le _, Nat.zero_le _⟩ (fun H locs hP hD hS => ?_)
    generalize ev2 : fx2_hasBelow 4 20 80 (stT S 0) 1 30 = v2 at hR hF ⊢
    replace hR := bnd_e hR
    replace hF := bnd_p hF
    refine lv_if_ne (tgt := 42) hx hb dX1_hasRoom_22 (by decide) (fun c3 => ?_) (fun c3 => ?_)
    · rw [if_neg c3] at hR hF
      refine lv_iconst (v := 0) hx hb dX1_hasRoom_42 (by decide) ?_
      subst hR
      exact krZ hx hb hr hlk hP hD hS dX1_hasRoom_43 (by decide) rfl rfl
    · rw [if_pos c3] at hR hF
      refine lv_aload_n hx hb dX1_hasRoom_25 rfl (lv_at hl 0 rfl) ?_
      refine va_get (D := D) (ci := 1) (v := .ref (ad 6)) (C := RX1) (T := TX1) (N := 16) hx hb hts hinX1 hown hK hP 0 rfl rfl 4 (by decide) q2 (fun _ h9 => h9) rfl dX1_hasRoom_26 ?_
      refine lv_iconst (v := 1) hx hb dX1_hasRoom_29 (by decide) ?_
      refine lv_bipush (v := 30) hx hb dX1_hasRoom_30 (by decide) ?_
      have hs6 := hF
      refine kcI (ci := 2) (q0 := 0) (As := [.int 1, .int 30]) (rest := []) E.1 (cx2_hasBelow E (ad 6) (ad 7) 6 35 210 (by decide) (stT S 1) 1 30 hs6) hX (cwV 2 hts gX1_hasRoom_X2_hasBelow rfl rfl rfl hdX2_hasBelow ⟨Nat.le_of_ble_eq_true rfl, Nat.le_of_ble_eq_true rfl⟩) hKs hK hP hD hS hA _ _ (st_tb1 cI ad S) (st_tb1 cI ad S).symm rfl rfl rfl rfl hl.1 (Nat.le_of_ble_eq_true rfl) dX1_hasRoom_32 ⟨Nat.zero_le _, Nat.zero_le _⟩ (fun H locs hP hD hS => ?_)
      generalize ev4 : fx2_hasBelow 6 35 210 (stT S 1) 1 30 = v4 at hR ⊢
      replace hR := bnd_e hR
      refine lv_if_ne (tgt := 42) hx hb dX1_hasRoom_35 (by decide) (fun c5 => ?_) (fun c5 => ?_)
      · rw [if_neg c5] at hR
        refine lv_iconst (v := 0) hx hb dX1_hasRoom_42 (by decide) ?_
        subst hR
        exact krZ hx hb hr hlk hP hD hS dX1_hasRoom_43 (by decide) rfl rfl
      · rw [if_pos c5] at hR
        refine lv_iconst (v := 1) hx hb dX1_hasRoom_38 (by decide) ?_
        refine lv_goto (tgt := 43) hx hb dX1_hasRoom_39 (by decide) ?_
        subst hR
        exact krZ hx hb hr hlk hP hD hS dX1_hasRoom_43 (by decide) rfl rfl

theorem hdX1_enter : yX1_enter.cls = RX1 ∧ yX1_enter.cls ≠ "java/lang/invoke/MethodHandle" ∧ yX1_enter.cls ≠ "java/lang/invoke/VarHandle" ∧ (parseMethodDescriptor yX1_enter.desc).map (fun d => d.parameters.length) = some 1 := by decide +kernel
def fx1_enter (S : St) (x1 : Int32) : Int32 × (St) := (bnd (fx1_count S 0) (fun S1 => (bnd (fx2_addRow 4 20 80 (stT S1 0) (fx1_counted S 0)) (fun u2 => (bnd (stP (stP S1 0 u2.2) 0 (fx2_put 4 20 80 (stT (stP S1 0 u2.2) 0) u2.1 2 x1)) (fun S3 => (bnd (fx2_addRow 6 35 210 (stT S3 1) (fx1_counted S 0)) (fun u4 => (fx1_counted S 0, (stP S3 1 u4.2))))))))))
def sx1_enter (S : St) (x1 : Int32) : Prop := (bnd (fx1_count S 0) (fun S1 => (sx2_addRow 4 20 80 (stT S1 0) (fx1_counted S 0) ∧ (bnd (fx2_addRow 4 20 80 (stT S1 0) (fx1_counted S 0)) (fun u2 => (bnd (stP (stP S1 0 u2.2) 0 (fx2_put 4 20 80 (stT (stP S1 0 u2.2) 0) u2.1 2 x1)) (fun S3 => sx2_addRow 6 35 210 (stT S3 1) (fx1_counted S 0))))))))
set_option maxHeartbeats 4000000 in
set_option maxRecDepth 100000 in
theorem cx1_enter {l : Launch} {D : va_G} {cI cB cS cJ : ClassId} {K : State → Prop} (E : kE D cI cB cS cJ K) (ad : Nat → Nat) (S : St) (x1 : Int32) (hF : sx1_enter S x1) : kI l D K yX1_enter wsX1_enter 2 47 [.ref (ad 0), .int x1] (stW cI ad S) (fx1_enter S x1).1 (stW cI ad ((fx1_enter S x1).2)) := by
  refine kI_of (own := RX1) (cc := cX1_enter) (maxL := 4) (tys := kty cI cB cS cJ) (fun U h => (E.2 U h).1) (by decide) rfl rfl (Nat.le_of_ble_eq_true rfl) ?_
  intro p e s m below meth c A ls hx hb hr hml hts hown hlk hKs hK hP hD hA hS hl
  have hl : lv_has ls 4 [(0, .ref (ad 0)), (1, .int x1)] := hl
  have hX : CallFix p m c cX1_enter 4 s _ wsX1_enter RX1 := ⟨hx, hb, hml, hown, hts⟩
  have hinX1 : ∀ w ∈ wsX10, w ∈ wsX1_enter := fun w h => List.mem_cons_of_mem _ (List.mem_append_left _ (List.mem_append_right _ h))
  have q1 := hts (.fieldLink RX1 26 "LabelStation$State" "items" "LLabelStation$Table;") (List.mem_of_getElem? (i := 1) rfl)
  have q2 := hts (.fieldLink RX1 30 "LabelStation$State" "records" "LLabelStation$Table;") (List.mem_of_getElem? (i := 2) rfl)
  generalize hR : fx1_enter S x1 = R
  rw [fx1_enter] at hR
  rw [sx1_enter] at hF
  refine lv_aload_n hx hb dX1_enter_0 rfl (lv_at hl 0 rfl) ?_
  refine lv_iconst (v := 0) hx hb dX1_enter_1 (by decide) ?_
  refine kcI (ci := 1) (q0 := 0) (As := [.int 0]) (rest := []) E.1 (cx1_counted E ad S 0) hX (cwV 1 hts gX1_enter_X1_counted rfl rfl rfl hdX1_counted ⟨Nat.le_of_ble_eq_true rfl, Nat.le_of_ble_eq_true rfl⟩) hKs hK hP hD hS hA _ _ (kw_self _) (kw_self _).symm rfl rfl rfl rfl hl.1 (Nat.le_of_ble_eq_true rfl) dX1_enter_2 ⟨Nat.zero_le _, Nat.zero_le _⟩ (fun H locs hP hD hS => ?_)
  refine lv_istore_n (lv' := [(2, .int (fx1_counted S 0)), (0, .ref (ad 0)), (1, .int x1)]) hx hb dX1_enter_5 rfl hl (by decide) rfl (fun ls hl => ?_)
  refine lv_aload_n hx hb dX1_enter_6 rfl (lv_at hl 1 rfl) ?_
  refine lv_iconst (v := 0) hx hb dX1_enter_7 (by decide) ?_
  refine kcV (ci := 1) (q0 := 0) (As := [.int 0]) (rest := []) E.1 (cx1_count E ad S 0) hX (cwV 1 hts gX1_enter_X1_count rfl rfl rfl hdX1_count ⟨Nat.le_of_ble_eq_true rfl, Nat.le_of_ble_eq_true rfl⟩) hKs hK hP hD hS hA _ _ (kw_self _) (kw_self _).symm rfl rfl rfl rfl hl.1 (Nat.le_of_ble_eq_true rfl) dX1_enter_8 ⟨Nat.zero_le _, Nat.zero_le _⟩ (fun H locs hP hD hS => ?_)
  have hP : va_P D vwCl (stW cI ad (fx1_count S 0)) H := hP
  have hD : va_D A (stW cI ad (fx1_count S 0)) := hD
  generalize eS1 : fx1_count S 0 = S1 at hR hF hP hD
  replace hR := bnd_e hR
  replace hF := bnd_p hF
  refine lv_aload_n hx hb dX1_enter_11 rfl (lv_at hl 1 rfl) ?_
  refine va_get (D := D) (ci := 1) (v := .ref (ad 4)) (C := RX1) (T := TX1) (N := 16) hx hb hts hinX1 hown hK hP 0 rfl rfl 3 (by decide) q1 (fun _ h9 => h9) rfl dX1_enter_12 ?_
  refine lv_iload_n hx hb dX1_enter_15 rfl (lv_at hl 0 rfl) ?_
  obtain ⟨hs6, hF⟩ := hF
  refine kcI (ci := 2) (q0 := 0) (As := [.int (fx1_counted S 0)]) (rest := []) E.1 (cx2_addRow E (ad 4) (ad 5) 4 20 80 (by decide) (stT S1 0) (fx1_counted S 0) hs6) hX (cwV 1 hts gX1_enter_X2_addRow rfl rfl rfl hdX2_addRow ⟨Nat.le_of_ble_eq_true rfl, Nat.le_of_ble_eq_true rfl⟩) hKs hK hP hD hS hA _ _ (st_tb0 cI ad S1) (st_tb0' cI ad S1 _) rfl rfl rfl rfl hl.1 (Nat.le_of_ble_eq_true rfl) dX1_enter_16 ⟨Nat.zero_le _, Nat.zero_le _⟩ (fun H locs hP hD hS => ?_)
  have hP : va_P D vwCl (stW cI ad (stP S1 0 ((fx2_addRow 4 20 80 (stT S1 0) (fx1_counted S 0)).2))) H := hP
  have hD : va_D A (stW cI ad (stP S1 0 ((fx2_addRow 4 20 80 (stT S1 0) (fx1_counted S 0)).2))) := hD
  generalize eu2 : fx2_addRow 4 20 80 (stT S1 0) (fx1_counted S 0) = u2 at hR hF hP hD ⊢
  replace hR := bnd_e hR
  replace hF := bnd_p hF
  refine lv_istore_n (lv' := [(3, .int u2.1), (2, .int (fx1_counted S 0)), (0, .ref (ad 0)), (1, .int x1)]) hx hb dX1_enter_19 rfl hl (by decide) rfl (fun ls hl => ?_)
  refine lv_aload_n hx hb dX1_enter_20 rfl (lv_at hl 2 rfl) ?_
  refine va_get (D := D) (ci := 1) (v := .ref (ad 4)) (C := RX1) (T := TX1) (N := 16) hx hb hts hinX1 hown hK hP 0 rfl rfl 3 (by decide) q1 (fun _ h9 => h9) rfl dX1_enter_21 ?_
  refine lv_iload_n hx hb dX1_enter_24 rfl (lv_at hl 0 rfl) ?_
  refine lv_iconst (v := 2) hx hb dX1_enter_25 (by decide) ?_
  refine lv_iload_n hx hb dX1_enter_26 rfl (lv_at hl 3 rfl) ?_
  refine kcV (ci := 2) (q0 := 0) (As := [.int u2.1, .int 2, .int x1]) (rest := []) E.1 (cx2_put E (ad 4) (ad 5) 4 20 80 (by decide) (stT (stP S1 0 u2.2) 0) u2.1 2 x1) hX (cwV 3 hts gX1_enter_X2_put rfl rfl rfl hdX2_put ⟨Nat.le_of_ble_eq_true rfl, Nat.le_of_ble_eq_true rfl⟩) hKs hK hP hD hS hA _ _ (st_tb0 cI ad (stP S1 0 u2.2)) (st_tb0' cI ad (stP S1 0 u2.2) _) rfl rfl rfl rfl hl.1 (Nat.le_of_ble_eq_true rfl) dX1_enter_27 ⟨Nat.zero_le _, Nat.zero_le _⟩ (fun H locs hP hD hS => ?_)
  have hP : va_P D vwCl (stW cI ad (stP (stP S1 0 u2.2) 0 (fx2_put 4 20 80 (stT (stP S1 0 u2.2) 0) u2.1 2 x1))) H := hP
  have hD : va_D A (stW cI ad (stP (stP S1 0 u2.2) 0 (fx2_put 4 20 80 (stT (stP S1 0 u2.2) 0) u2.1 2 x1))) := hD
  generalize eS3 : stP (stP S1 0 u2.2) 0 (fx2_put 4 20 80 (stT (stP S1 0 u2.2) 0) u2.1 2 x1) = S3 at hR hF hP hD
  replace hR := bnd_e hR
  replace hF := bnd_p hF
  refine lv_aload_n hx hb dX1_enter_30 rfl (lv_at hl 2 rfl) ?_
  refine va_get (D := D) (ci := 1) (v := .ref (ad 6)) (C := RX1) (T := TX1) (N := 16) hx hb hts hinX1 hown hK hP 0 rfl rfl 4 (by decide) q2 (fun _ h9 => h9) rfl dX1_enter_31 ?_
  refine lv_iload_n hx hb dX1_enter_34 rfl (lv_at hl 1 rfl) ?_
  have hs5 := hF
  refine kcI (ci := 2) (q0 := 0) (As := [.int (fx1_counted S 0)]) (rest := []) E.1 (cx2_addRow E (ad 6) (ad 7) 6 35 210 (by decide) (stT S3 1) (fx1_counted S 0) hs5) hX (cwV 1 hts gX1_enter_X2_addRow rfl rfl rfl hdX2_addRow ⟨Nat.le_of_ble_eq_true rfl, Nat.le_of_ble_eq_true rfl⟩) hKs hK hP hD hS hA _ _ (st_tb1 cI ad S3) (st_tb1' cI ad S3 _) rfl rfl rfl rfl hl.1 (Nat.le_of_ble_eq_true rfl) dX1_enter_35 ⟨Nat.zero_le _, Nat.zero_le _⟩ (fun H locs hP hD hS => ?_)
  have hP : va_P D vwCl (stW cI ad (stP S3 1 ((fx2_addRow 6 35 210 (stT S3 1) (fx1_counted S 0)).2))) H := hP
  have hD : va_D A (stW cI ad (stP S3 1 ((fx2_addRow 6 35 210 (stT S3 1) (fx1_counted S 0)).2))) := hD
  generalize eu4 : fx2_addRow 6 35 210 (stT S3 1) (fx1_counted S 0) = u4 at hR hP hD ⊢
  replace hR := bnd_e hR
  refine lv_pop hx hb dX1_enter_38 rfl ?_
  refine lv_iload_n hx hb dX1_enter_39 rfl (lv_at hl 1 rfl) ?_
  subst hR
  exact krI hx hb hr hlk hP hD hS dX1_enter_40 rfl rfl

theorem hdX1_raise : yX1_raise.cls = RX1 ∧ yX1_raise.cls ≠ "java/lang/invoke/MethodHandle" ∧ yX1_raise.cls ≠ "java/lang/invoke/VarHandle" ∧ (parseMethodDescriptor yX1_raise.desc).map (fun d => d.parameters.length) = some 1 := by decide +kernel
def fx1_raise (S : St) (x1 : Int32) : St := (bnd (fx1_count S (13 + x1)) (fun S1 => (if (S1 3 2) = 0 then sset (sset S1 3 2 x1) 3 1 0 else S1)))
set_option maxHeartbeats 4000000 in
set_option maxRecDepth 100000 in
theorem cx1_raise {l : Launch} {D : va_G} {cI cB cS cJ : ClassId} {K : State → Prop} (E : kE D cI cB cS cJ K) (ad : Nat → Nat) (S : St) (x1 : Int32) : kV l D K yX1_raise wsX1_raise 1 21 [.ref (ad 0), .int x1] (stW cI ad S)  (stW cI ad (fx1_raise S x1)) := by
  refine kV_of (own := RX1) (cc := cX1_raise) (maxL := 2) (tys := kty cI cB cS cJ) (fun U h => (E.2 U h).1) (by decide) rfl rfl (Nat.le_of_ble_eq_true rfl) ?_
  intro p e s m below meth c A ls hx hb hr hml hts hown hlk hKs hK hP hD hA hS hl
  have hl : lv_has ls 2 [(0, .ref (ad 0)), (1, .int x1)] := hl
  have hX : CallFix p m c cX1_raise 2 s _ wsX1_raise RX1 := ⟨hx, hb, hml, hown, hts⟩
  have hinX1 : ∀ w ∈ wsX10, w ∈ wsX1_raise := fun w h => List.mem_cons_of_mem _ (List.mem_append_right _ h)
  have q1 := hts (.fieldLink RX1 50 "LabelStation$State" "alarm" "I") (List.mem_of_getElem? (i := 1) rfl)
  have q2 := hts (.fieldLink RX1 46 "LabelStation$State" "running" "Z") (List.mem_of_getElem? (i := 2) rfl)
  generalize hR : fx1_raise S x1 = R
  rw [fx1_raise] at hR
  refine lv_aload_n hx hb dX1_raise_0 rfl (lv_at hl 0 rfl) ?_
  refine lv_bipush (v := 13) hx hb dX1_raise_1 (by decide) ?_
  refine lv_iload_n hx hb dX1_raise_3 rfl (lv_at hl 1 rfl) ?_
  refine lv_iadd hx hb dX1_raise_4 ?_
  refine kcV (ci := 1) (q0 := 0) (As := [.int (13 + x1)]) (rest := []) E.1 (cx1_count E ad S (13 + x1)) hX (cwV 1 hts gX1_raise_X1_count rfl rfl rfl hdX1_count ⟨Nat.le_of_ble_eq_true rfl, Nat.le_of_ble_eq_true rfl⟩) hKs hK hP hD hS hA _ _ (kw_self _) (kw_self _).symm rfl rfl rfl rfl hl.1 (Nat.le_of_ble_eq_true rfl) dX1_raise_5 ⟨Nat.zero_le _, Nat.zero_le _⟩ (fun H locs hP hD hS => ?_)
  have hP : va_P D vwCl (stW cI ad (fx1_count S (13 + x1))) H := hP
  have hD : va_D A (stW cI ad (fx1_count S (13 + x1))) := hD
  generalize eS1 : fx1_count S (13 + x1) = S1 at hR hP hD
  replace hR := bnd_e hR
  refine lv_aload_n hx hb dX1_raise_8 rfl (lv_at hl 0 rfl) ?_
  refine va_get (D := D) (ci := 1) (v := .int (S1 3 2)) (C := RX1) (T := TX1) (N := 16) hx hb hts hinX1 hown hK hP 0 rfl rfl 10 (by decide) q1 (fun _ h9 => h9) rfl dX1_raise_9 ?_
  refine lv_if_ne (tgt := 25) hx hb dX1_raise_12 (by decide) (fun c2 => ?_) (fun c2 => ?_)
  · rw [if_neg c2] at hR
    subst hR
    exact krV hx hb hr hlk hP hD hS dX1_raise_25 rfl
  · rw [if_pos c2] at hR
    refine lv_aload_n hx hb dX1_raise_15 rfl (lv_at hl 0 rfl) ?_
    refine lv_iload_n hx hb dX1_raise_16 rfl (lv_at hl 1 rfl) ?_
    refine va_put (D := D) (ci := 1) (v := .int x1) (ty := .int) (C := RX1) (T := TX1) (N := 16) hx hb hts hinX1 tyX1 tyX1_ok nmX1 hown hK hP hD hS 0 rfl rfl 10 (by decide) q1 (fun _ h9 => h9) rfl (by decide +kernel) rfl rfl (Nat.le_of_ble_eq_true rfl) dX1_raise_17 (fun H locs hP hD hS => ?_)
    have hP : va_P D vwCl (stW cI ad (sset S1 3 2 x1)) H := hP
    have hD : va_D A (stW cI ad (sset S1 3 2 x1)) := hD
    refine lv_aload_n hx hb dX1_raise_20 rfl (lv_at hl 0 rfl) ?_
    refine lv_iconst (v := 0) hx hb dX1_raise_21 (by decide) ?_
    refine va_put (D := D) (ci := 1) (v := .int 0) (ty := .boolean) (C := RX1) (T := TX1) (N := 16) hx hb hts hinX1 tyX1 tyX1_ok nmX1 hown hK hP hD hS 0 rfl rfl 9 (by decide) q2 (fun _ h9 => h9) rfl (by decide +kernel) rfl rfl (Nat.le_of_ble_eq_true rfl) dX1_raise_22 (fun H locs hP hD hS => ?_)
    have hP : va_P D vwCl (stW cI ad (sset (sset S1 3 2 x1) 3 1 0)) H := hP
    have hD : va_D A (stW cI ad (sset (sset S1 3 2 x1) 3 1 0)) := hD
    subst hR
    exact krV hx hb hr hlk hP hD hS dX1_raise_25 rfl

theorem hdX1_deliver : yX1_deliver.cls = RX1 ∧ yX1_deliver.cls ≠ "java/lang/invoke/MethodHandle" ∧ yX1_deliver.cls ≠ "java/lang/invoke/VarHandle" ∧ (parseMethodDescriptor yX1_deliver.desc).map (fun d => d.parameters.length) = some 1 := by decide +kernel
def fx1_deliver (S : St) (x1 : Int32) : St := (bnd (fx2_find 6 35 210 (stT S 1) (fx2_get 4 200 800 (stT S 2) x1 1)) (fun v1 => (if v1 = (-1) then (bnd (fx1_count S 4) (fun S3 => S3)) else (if (fx2_get 6 35 210 (stT S 1) v1 4) = 1 then (bnd (fx1_count S 4) (fun S5 => S5)) else (if (fx2_get 4 200 800 (stT S 2) x1 2) = 0 then (if (fx2_get 6 35 210 (stT S 1) v1 2) = 0 then (bnd (stP S 1 (fx2_put 6 35 210 (stT S 1) v1 2 (fx2_get 4 200 800 (stT S 2) x1 3))) (fun S8 => S8)) else S) else (if (fx2_get 6 35 210 (stT S 1) v1 2) = 0 then (if (fx2_get 4 200 800 (stT S 2) x1 3) = 3 then (bnd (stP S 1 (fx2_put 6 35 210 (stT S 1) v1 2 2)) (fun S11 => S11)) else (bnd (stP S 1 (fx2_put 6 35 210 (stT S 1) v1 2 (fx2_get 4 200 800 (stT S 2) x1 3))) (fun S12 => S12))) else (if (fx2_get 6 35 210 (stT S 1) v1 2) = 3 then (if (fx2_get 4 200 800 (stT S 2) x1 3) = 3 then (bnd (stP S 1 (fx2_put 6 35 210 (stT S 1) v1 2 2)) (fun S15 => S15)) else (bnd (stP S 1 (fx2_put 6 35 210 (stT S 1) v1 2 (fx2_get 4 200 800 (stT S 2) x1 3))) (fun S16 => S16))) else S)))))))
def sx1_deliver (S : St) (x1 : Int32) : Prop := sx2_find 6 35 210 (stT S 1) (fx2_get 4 200 800 (stT S 2) x1 1)
set_option maxHeartbeats 4000000 in
set_option maxRecDepth 100000 in
theorem cx1_deliver {l : Launch} {D : va_G} {cI cB cS cJ : ClassId} {K : State → Prop} (E : kE D cI cB cS cJ K) (ad : Nat → Nat) (S : St) (x1 : Int32) (hF : sx1_deliver S x1) : kV l D K yX1_deliver wsX1_deliver 2 45 [.ref (ad 0), .int x1] (stW cI ad S)  (stW cI ad (fx1_deliver S x1)) := by
  refine kV_of (own := RX1) (cc := cX1_deliver) (maxL := 5) (tys := kty cI cB cS cJ) (fun U h => (E.2 U h).1) (by decide) rfl rfl (Nat.le_of_ble_eq_true rfl) ?_
  intro p e s m below meth c A ls hx hb hr hml hts hown hlk hKs hK hP hD hA hS hl
  have hl : lv_has ls 5 [(0, .ref (ad 0)), (1, .int x1)] := hl
  have hX : CallFix p m c cX1_deliver 5 s _ wsX1_deliver RX1 := ⟨hx, hb, hml, hown, hts⟩
  have hinX1 : ∀ w ∈ wsX10, w ∈ wsX1_deliver := fun w h => List.mem_cons_of_mem _ (List.mem_append_left _ (List.mem_append_right _ h))
  have q1 := hts (.fieldLink RX1 30 "LabelStation$State" "records" "LLabelStation$Table;") (List.mem_of_getElem? (i := 1) rfl)
  have q2 := hts (.fieldLink RX1 33 "LabelStation$State" "verdicts" "LLabelStation$Table;") (List.mem_of_getElem? (i := 2) rfl)
  generalize hR : fx1_deliver S x1 = R
  rw [fx1_deliver] at hR
  rw [sx1_deliver] at hF
  refine lv_aload_n hx hb dX1_deliver_0 rfl (lv_at hl 0 rfl) ?_
  refine va_get (D := D) (ci := 1) (v := .ref (ad 6)) (C := RX1) (T := TX1) (N := 16) hx hb hts hinX1 hown hK hP 0 rfl rfl 4 (by decide) q1 (fun _ h9 => h9) rfl dX1_deliver_1 ?_
  refine lv_aload_n hx hb dX1_deliver_4 rfl (lv_at hl 0 rfl) ?_
  refine va_get (D := D) (ci := 1) (v := .ref (ad 8)) (C := RX1) (T := TX1) (N := 16) hx hb hts hinX1 hown hK hP 0 rfl rfl 5 (by decide) q2 (fun _ h9 => h9) rfl dX1_deliver_5 ?_
  refine lv_iload_n hx hb dX1_deliver_8 rfl (lv_at hl 1 rfl) ?_
  refine lv_iconst (v := 1) hx hb dX1_deliver_9 (by decide) ?_
  refine kcI (ci := 2) (q0 := 0) (As := [.int x1, .int 1]) (rest := [.ref (ad 6)]) E.1 (cx2_get E (ad 8) (ad 9) 4 200 800 (by decide) (stT S 2) x1 1) hX (cwV 2 hts gX1_deliver_X2_get rfl rfl rfl hdX2_get ⟨Nat.le_of_ble_eq_true rfl, Nat.le_of_ble_eq_true rfl⟩) hKs hK hP hD hS hA _ _ (st_tb2 cI ad S) (st_tb2 cI ad S).symm rfl rfl rfl rfl hl.1 (Nat.le_of_ble_eq_true rfl) dX1_deliver_10 ⟨Nat.zero_le _, Nat.zero_le _⟩ (fun H locs hP hD hS => ?_)
  have hs17 := hF
  refine kcI (ci := 2) (q0 := 0) (As := [.int (fx2_get 4 200 800 (stT S 2) x1 1)]) (rest := []) E.1 (cx2_find E (ad 6) (ad 7) 6 35 210 (by decide) (stT S 1) (fx2_get 4 200 800 (stT S 2) x1 1) hs17) hX (cwV 1 hts gX1_deliver_X2_find rfl rfl rfl hdX2_find ⟨Nat.le_of_ble_eq_true rfl, Nat.le_of_ble_eq_true rfl⟩) hKs hK hP hD hS hA _ _ (st_tb1 cI ad S) (st_tb1 cI ad S).symm rfl rfl rfl rfl hl.1 (Nat.le_of_ble_eq_true rfl) dX1_deliver_13 ⟨Nat.zero_le _, Nat.zero_le _⟩ (fun H locs hP hD hS => ?_)
  generalize ev1 : fx2_find 6 35 210 (stT S 1) (fx2_get 4 200 800 (stT S 2) x1 1) = v1 at hR ⊢
  replace hR := bnd_e hR
  refine lv_istore_n (lv' := [(2, .int v1), (0, .ref (ad 0)), (1, .int x1)]) hx hb dX1_deliver_16 rfl hl (by decide) rfl (fun ls hl => ?_)
  refine lv_iload_n hx hb dX1_deliver_17 rfl (lv_at hl 0 rfl) ?_
  refine lv_iconst (v := (-1)) hx hb dX1_deliver_18 (by decide) ?_
  refine lv_icmp_eq (tgt := 35) hx hb dX1_deliver_19 (by decide) (fun c2 => ?_) (fun c2 => ?_)
  · rw [if_pos c2] at hR
    refine lv_aload_n hx hb dX1_deliver_35 rfl (lv_at hl 1 rfl) ?_
    refine lv_iconst (v := 4) hx hb dX1_deliver_36 (by decide) ?_
    refine kcV (ci := 1) (q0 := 0) (As := [.int 4]) (rest := []) E.1 (cx1_count E ad S 4) hX (cwV 1 hts gX1_deliver_X1_count rfl rfl rfl hdX1_count ⟨Nat.le_of_ble_eq_true rfl, Nat.le_of_ble_eq_true rfl⟩) hKs hK hP hD hS hA _ _ (kw_self _) (kw_self _).symm rfl rfl rfl rfl hl.1 (Nat.le_of_ble_eq_true rfl) dX1_deliver_37 ⟨Nat.zero_le _, Nat.zero_le _⟩ (fun H locs hP hD hS => ?_)
    have hP : va_P D vwCl (stW cI ad (fx1_count S 4)) H := hP
    have hD : va_D A (stW cI ad (fx1_count S 4)) := hD
    generalize eS3 : fx1_count S 4 = S3 at hR hP hD
    replace hR := bnd_e hR
    subst hR
    exact krV hx hb hr hlk hP hD hS dX1_deliver_40 rfl
  · rw [if_neg c2] at hR
    refine lv_aload_n hx hb dX1_deliver_22 rfl (lv_at hl 1 rfl) ?_
    refine va_get (D := D) (ci := 1) (v := .ref (ad 6)) (C := RX1) (T := TX1) (N := 16) hx hb hts hinX1 hown hK hP 0 rfl rfl 4 (by decide) q1 (fun _ h9 => h9) rfl dX1_deliver_23 ?_
    refine lv_iload_n hx hb dX1_deliver_26 rfl (lv_at hl 0 rfl) ?_
    refine lv_iconst (v := 4) hx hb dX1_deliver_27 (by decide) ?_
    refine kcI (ci := 2) (q0 := 0) (As := [.int v1, .int 4]) (rest := []) E.1 (cx2_get E (ad 6) (ad 7) 6 35 210 (by decide) (stT S 1) v1 4) hX (cwV 2 hts gX1_deliver_X2_get rfl rfl rfl hdX2_get ⟨Nat.le_of_ble_eq_true rfl, Nat.le_of_ble_eq_true rfl⟩) hKs hK hP hD hS hA _ _ (st_tb1 cI ad S) (st_tb1 cI ad S).symm rfl rfl rfl rfl hl.1 (Nat.le_of_ble_eq_true rfl) dX1_deliver_28 ⟨Nat.zero_le _, Nat.zero_le _⟩ (fun H locs hP hD hS => ?_)
    refine lv_iconst (v := 1) hx hb dX1_deliver_31 (by decide) ?_
    refine lv_icmp_ne (tgt := 41) hx hb dX1_deliver_32 (by decide) (fun c4 => ?_) (fun c4 => ?_)
    · rw [if_neg c4] at hR
      refine lv_aload_n hx hb dX1_deliver_41 rfl (lv_at hl 1 rfl) ?_
      refine va_get (D := D) (ci := 1) (v := .ref (ad 8)) (C := RX1) (T := TX1) (N := 16) hx hb hts hinX1 hown hK hP 0 rfl rfl 5 (by decide) q2 (fun _ h9 => h9) rfl dX1_deliver_42 ?_
      refine lv_iload_n hx hb dX1_deliver_45 rfl (lv_at hl 2 rfl) ?_
      refine lv_iconst (v := 3) hx hb dX1_deliver_46 (by decide) ?_
      refine kcI (ci := 2) (q0 := 0) (As := [.int x1, .int 3]) (rest := []) E.1 (cx2_get E (ad 8) (ad 9) 4 200 800 (by decide) (stT S 2) x1 3) hX (cwV 2 hts gX1_deliver_X2_get rfl rfl rfl hdX2_get ⟨Nat.le_of_ble_eq_true rfl, Nat.le_of_ble_eq_true rfl⟩) hKs hK hP hD hS hA _ _ (st_tb2 cI ad S) (st_tb2 cI ad S).symm rfl rfl rfl rfl hl.1 (Nat.le_of_ble_eq_true rfl) dX1_deliver_47 ⟨Nat.zero_le _, Nat.zero_le _⟩ (fun H locs hP hD hS => ?_)
      refine lv_istore_n (lv' := [(3, .int (fx2_get 4 200 800 (stT S 2) x1 3)), (2, .int v1), (0, .ref (ad 0)), (1, .int x1)]) hx hb dX1_deliver_50 rfl hl (by decide) rfl (fun ls hl => ?_)
      refine lv_aload_n hx hb dX1_deliver_51 rfl (lv_at hl 2 rfl) ?_
      refine va_get (D := D) (ci := 1) (v := .ref (ad 6)) (C := RX1) (T := TX1) (N := 16) hx hb hts hinX1 hown hK hP 0 rfl rfl 4 (by decide) q1 (fun _ h9 => h9) rfl dX1_deliver_52 ?_
      refine lv_iload_n hx hb dX1_deliver_55 rfl (lv_at hl 1 rfl) ?_
      refine lv_iconst (v := 2) hx hb dX1_deliver_56 (by decide) ?_
      refine kcI (ci := 2) (q0 := 0) (As := [.int v1, .int 2]) (rest := []) E.1 (cx2_get E (ad 6) (ad 7) 6 35 210 (by decide) (stT S 1) v1 2) hX (cwV 2 hts gX1_deliver_X2_get rfl rfl rfl hdX2_get ⟨Nat.le_of_ble_eq_true rfl, Nat.le_of_ble_eq_true rfl⟩) hKs hK hP hD hS hA _ _ (st_tb1 cI ad S) (st_tb1 cI ad S).symm rfl rfl rfl rfl hl.1 (Nat.le_of_ble_eq_true rfl) dX1_deliver_57 ⟨Nat.zero_le _, Nat.zero_le _⟩ (fun H locs hP hD hS => ?_)
      refine lv_istore (lv' := [(4, .int (fx2_get 6 35 210 (stT S 1) v1 2)), (3, .int (fx2_get 4 200 800 (stT S 2) x1 3)), (2, .int v1), (0, .ref (ad 0)), (1, .int x1)]) hx hb dX1_deliver_60 hl (by decide) rfl (fun ls hl => ?_)
      refine lv_aload_n hx hb dX1_deliver_62 rfl (lv_at hl 3 rfl) ?_
      refine va_get (D := D) (ci := 1) (v := .ref (ad 8)) (C := RX1) (T := TX1) (N := 16) hx hb hts hinX1 hown hK hP 0 rfl rfl 5 (by decide) q2 (fun _ h9 => h9) rfl dX1_deliver_63 ?_
      refine lv_iload_n hx hb dX1_deliver_66 rfl (lv_at hl 4 rfl) ?_
      refine lv_iconst (v := 2) hx hb dX1_deliver_67 (by decide) ?_
      refine kcI (ci := 2) (q0 := 0) (As := [.int x1, .int 2]) (rest := []) E.1 (cx2_get E (ad 8) (ad 9) 4 200 800 (by decide) (stT S 2) x1 2) hX (cwV 2 hts gX1_deliver_X2_get rfl rfl rfl hdX2_get ⟨Nat.le_of_ble_eq_true rfl, Nat.le_of_ble_eq_true rfl⟩) hKs hK hP hD hS hA _ _ (st_tb2 cI ad S) (st_tb2 cI ad S).symm rfl rfl rfl rfl hl.1 (Nat.le_of_ble_eq_true rfl) dX1_deliver_68 ⟨Nat.zero_le _, Nat.zero_le _⟩ (fun H locs hP hD hS => ?_)
      refine lv_if_ne (tgt := 92) hx hb dX1_deliver_71 (by decide) (fun c6 => ?_) (fun c6 => ?_)
      · rw [if_neg c6] at hR
        refine lv_iload hx hb dX1_deliver_92 (lv_at hl 0 rfl) ?_
        refine lv_if_eq (tgt := 103) hx hb dX1_deliver_94 (by decide) (fun c9 => ?_) (fun c9 => ?_)
        · rw [if_pos c9] at hR
          refine lv_aload_n hx hb dX1_deliver_103 rfl (lv_at hl 3 rfl) ?_
          refine va_get (D := D) (ci := 1) (v := .ref (ad 6)) (C := RX1) (T := TX1) (N := 16) hx hb hts hinX1 hown hK hP 0 rfl rfl 4 (by decide) q1 (fun _ h9 => h9) rfl dX1_deliver_104 ?_
          refine lv_iload_n hx hb dX1_deliver_107 rfl (lv_at hl 2 rfl) ?_
          refine lv_iconst (v := 2) hx hb dX1_deliver_108 (by decide) ?_
          refine lv_iload_n hx hb dX1_deliver_109 rfl (lv_at hl 1 rfl) ?_
          refine lv_iconst (v := 3) hx hb dX1_deliver_110 (by decide) ?_
          refine lv_icmp_ne (tgt := 118) hx hb dX1_deliver_111 (by decide) (fun c10 => ?_) (fun c10 => ?_)
          · rw [if_neg c10] at hR
            refine lv_iload_n hx hb dX1_deliver_118 rfl (lv_at hl 1 rfl) ?_
            refine kcV (ci := 2) (q0 := 0) (As := [.int v1, .int 2, .int (fx2_get 4 200 800 (stT S 2) x1 3)]) (rest := []) E.1 (cx2_put E (ad 6) (ad 7) 6 35 210 (by decide) (stT S 1) v1 2 (fx2_get 4 200 800 (stT S 2) x1 3)) hX (cwV 3 hts gX1_deliver_X2_put rfl rfl rfl hdX2_put ⟨Nat.le_of_ble_eq_true rfl, Nat.le_of_ble_eq_true rfl⟩) hKs hK hP hD hS hA _ _ (st_tb1 cI ad S) (st_tb1' cI ad S _) rfl rfl rfl rfl hl.1 (Nat.le_of_ble_eq_true rfl) dX1_deliver_119 ⟨Nat.zero_le _, Nat.zero_le _⟩ (fun H locs hP hD hS => ?_)
            have hP : va_P D vwCl (stW cI ad (stP S 1 (fx2_put 6 35 210 (stT S 1) v1 2 (fx2_get 4 200 800 (stT S 2) x1 3)))) H := hP
            have hD : va_D A (stW cI ad (stP S 1 (fx2_put 6 35 210 (stT S 1) v1 2 (fx2_get 4 200 800 (stT S 2) x1 3)))) := hD
            generalize eS12 : stP S 1 (fx2_put 6 35 210 (stT S 1) v1 2 (fx2_get 4 200 800 (stT S 2) x1 3)) = S12 at hR hP hD
            replace hR := bnd_e hR
            subst hR
            exact krV hx hb hr hlk hP hD hS dX1_deliver_122 rfl
          · rw [if_pos c10] at hR
            refine lv_iconst (v := 2) hx hb dX1_deliver_114 (by decide) ?_
            refine lv_goto (tgt := 119) hx hb dX1_deliver_115 (by decide) ?_
            refine kcV (ci := 2) (q0 := 0) (As := [.int v1, .int 2, .int 2]) (rest := []) E.1 (cx2_put E (ad 6) (ad 7) 6 35 210 (by decide) (stT S 1) v1 2 2) hX (cwV 3 hts gX1_deliver_X2_put rfl rfl rfl hdX2_put ⟨Nat.le_of_ble_eq_true rfl, Nat.le_of_ble_eq_true rfl⟩) hKs hK hP hD hS hA _ _ (st_tb1 cI ad S) (st_tb1' cI ad S _) rfl rfl rfl rfl hl.1 (Nat.le_of_ble_eq_true rfl) dX1_deliver_119 ⟨Nat.zero_le _, Nat.zero_le _⟩ (fun H locs hP hD hS => ?_)
            have hP : va_P D vwCl (stW cI ad (stP S 1 (fx2_put 6 35 210 (stT S 1) v1 2 2))) H := hP
            have hD : va_D A (stW cI ad (stP S 1 (fx2_put 6 35 210 (stT S 1) v1 2 2))) := hD
            generalize eS11 : stP S 1 (fx2_put 6 35 210 (stT S 1) v1 2 2) = S11 at hR hP hD
            replace hR := bnd_e hR
            subst hR
            exact krV hx hb hr hlk hP hD hS dX1_deliver_122 rfl
        · rw [if_neg c9] at hR
          refine lv_iload hx hb dX1_deliver_97 (lv_at hl 0 rfl) ?_
          refine lv_iconst (v := 3) hx hb dX1_deliver_99 (by decide) ?_
          refine lv_icmp_ne (tgt := 122) hx hb dX1_deliver_100 (by decide) (fun c13 => ?_) (fun c13 => ?_)
          · rw [if_neg c13] at hR
            subst hR
            exact krV hx hb hr hlk hP hD hS dX1_deliver_122 rfl
          · rw [if_pos c13] at hR
            refine lv_aload_n hx hb dX1_deliver_103 rfl (lv_at hl 3 rfl) ?_
            refine va_get (D := D) (ci := 1) (v := .ref (ad 6)) (C := RX1) (T := TX1) (N := 16) hx hb hts hinX1 hown hK hP 0 rfl rfl 4 (by decide) q1 (fun _ h9 => h9) rfl dX1_deliver_104 ?_
            refine lv_iload_n hx hb dX1_deliver_107 rfl (lv_at hl 2 rfl) ?_
            refine lv_iconst (v := 2) hx hb dX1_deliver_108 (by decide) ?_
            refine lv_iload_n hx hb dX1_deliver_109 rfl (lv_at hl 1 rfl) ?_
            refine lv_iconst (v := 3) hx hb dX1_deliver_110 (by decide) ?_
            refine lv_icmp_ne (tgt := 118) hx hb dX1_deliver_111 (by decide) (fun c14 => ?_) (fun c14 => ?_)
            · rw [if_neg c14] at hR
              refine lv_iload_n hx hb dX1_deliver_118 rfl (lv_at hl 1 rfl) ?_
              refine kcV (ci := 2) (q0 := 0) (As := [.int v1, .int 2, .int (fx2_get 4 200 800 (stT S 2) x1 3)]) (rest := []) E.1 (cx2_put E (ad 6) (ad 7) 6 35 210 (by decide) (stT S 1) v1 2 (fx2_get 4 200 800 (stT S 2) x1 3)) hX (cwV 3 hts gX1_deliver_X2_put rfl rfl rfl hdX2_put ⟨Nat.le_of_ble_eq_true rfl, Nat.le_of_ble_eq_true rfl⟩) hKs hK hP hD hS hA _ _ (st_tb1 cI ad S) (st_tb1' cI ad S _) rfl rfl rfl rfl hl.1 (Nat.le_of_ble_eq_true rfl) dX1_deliver_119 ⟨Nat.zero_le _, Nat.zero_le _⟩ (fun H locs hP hD hS => ?_)
              have hP : va_P D vwCl (stW cI ad (stP S 1 (fx2_put 6 35 210 (stT S 1) v1 2 (fx2_get 4 200 800 (stT S 2) x1 3)))) H := hP
              have hD : va_D A (stW cI ad (stP S 1 (fx2_put 6 35 210 (stT S 1) v1 2 (fx2_get 4 200 800 (stT S 2) x1 3)))) := hD
              generalize eS16 : stP S 1 (fx2_put 6 35 210 (stT S 1) v1 2 (fx2_get 4 200 800 (stT S 2) x1 3)) = S16 at hR hP hD
              replace hR := bnd_e hR
              subst hR
              exact krV hx hb hr hlk hP hD hS dX1_deliver_122 rfl
            · rw [if_pos c14] at hR
              refine lv_iconst (v := 2) hx hb dX1_deliver_114 (by decide) ?_
              refine lv_goto (tgt := 119) hx hb dX1_deliver_115 (by decide) ?_
              refine kcV (ci := 2) (q0 := 0) (As := [.int v1, .int 2, .int 2]) (rest := []) E.1 (cx2_put E (ad 6) (ad 7) 6 35 210 (by decide) (stT S 1) v1 2 2) hX (cwV 3 hts gX1_deliver_X2_put rfl rfl rfl hdX2_put ⟨Nat.le_of_ble_eq_true rfl, Nat.le_of_ble_eq_true rfl⟩) hKs hK hP hD hS hA _ _ (st_tb1 cI ad S) (st_tb1' cI ad S _) rfl rfl rfl rfl hl.1 (Nat.le_of_ble_eq_true rfl) dX1_deliver_119 ⟨Nat.zero_le _, Nat.zero_le _⟩ (fun H locs hP hD hS => ?_)
              have hP : va_P D vwCl (stW cI ad (stP S 1 (fx2_put 6 35 210 (stT S 1) v1 2 2))) H := hP
              have hD : va_D A (stW cI ad (stP S 1 (fx2_put 6 35 210 (stT S 1) v1 2 2))) := hD
              generalize eS15 : stP S 1 (fx2_put 6 35 210 (stT S 1) v1 2 2) = S15 at hR hP hD
              replace hR := bnd_e hR
              subst hR
              exact krV hx hb hr hlk hP hD hS dX1_deliver_122 rfl
      · rw [if_pos c6] at hR
        refine lv_iload hx hb dX1_deliver_74 (lv_at hl 0 rfl) ?_
        refine lv_if_ne (tgt := 122) hx hb dX1_deliver_76 (by decide) (fun c7 => ?_) (fun c7 => ?_)
        · rw [if_neg c7] at hR
          subst hR
          exact krV hx hb hr hlk hP hD hS dX1_deliver_122 rfl
        · rw [if_pos c7] at hR
          refine lv_aload_n hx hb dX1_deliver_79 rfl (lv_at hl 3 rfl) ?_
          refine va_get (D := D) (ci := 1) (v := .ref (ad 6)) (C := RX1) (T := TX1) (N := 16) hx hb hts hinX1 hown hK hP 0 rfl rfl 4 (by decide) q1 (fun _ h9 => h9) rfl dX1_deliver_80 ?_
          refine lv_iload_n hx hb dX1_deliver_83 rfl (lv_at hl 2 rfl) ?_
          refine lv_iconst (v := 2) hx hb dX1_deliver_84 (by decide) ?_
          refine lv_iload_n hx hb dX1_deliver_85 rfl (lv_at hl 1 rfl) ?_
          refine kcV (ci := 2) (q0 := 0) (As := [.int v1, .int 2, .int (fx2_get 4 200 800 (stT S 2) x1 3)]) (rest := []) E.1 (cx2_put E (ad 6) (ad 7) 6 35 210 (by decide) (stT S 1) v1 2 (fx2_get 4 200 800 (stT S 2) x1 3)) hX (cwV 3 hts gX1_deliver_X2_put rfl rfl rfl hdX2_put ⟨Nat.le_of_ble_eq_true rfl, Nat.le_of_ble_eq_true rfl⟩) hKs hK hP hD hS hA _ _ (st_tb1 cI ad S) (st_tb1' cI ad S _) rfl rfl rfl rfl hl.1 (Nat.le_of_ble_eq_true rfl) dX1_deliver_86 ⟨Nat.zero_le _, Nat.zero_le _⟩ (fun H locs hP hD hS => ?_)
          have hP : va_P D vwCl (stW cI ad (stP S 1 (fx2_put 6 35 210 (stT S 1) v1 2 (fx2_get 4 200 800 (stT S 2) x1 3)))) H := hP
          have hD : va_D A (stW cI ad (stP S 1 (fx2_put 6 35 210 (stT S 1) v1 2 (fx2_get 4 200 800 (stT S 2) x1 3)))) := hD
          generalize eS8 : stP S 1 (fx2_put 6 35 210 (stT S 1) v1 2 (fx2_get 4 200 800 (stT S 2) x1 3)) = S8 at hR hP hD
          replace hR := bnd_e hR
          refine lv_goto (tgt := 122) hx hb dX1_deliver_89 (by decide) ?_
          subst hR
          exact krV hx hb hr hlk hP hD hS dX1_deliver_122 rfl
    · rw [if_pos c4] at hR
      refine lv_aload_n hx hb dX1_deliver_35 rfl (lv_at hl 1 rfl) ?_
      refine lv_iconst (v := 4) hx hb dX1_deliver_36 (by decide) ?_
      refine kcV (ci := 1) (q0 := 0) (As := [.int 4]) (rest := []) E.1 (cx1_count E ad S 4) hX (cwV 1 hts gX1_deliver_X1_count rfl rfl rfl hdX1_count ⟨Nat.le_of_ble_eq_true rfl, Nat.le_of_ble_eq_true rfl⟩) hKs hK hP hD hS hA _ _ (kw_self _) (kw_self _).symm rfl rfl rfl rfl hl.1 (Nat.le_of_ble_eq_true rfl) dX1_deliver_37 ⟨Nat.zero_le _, Nat.zero_le _⟩ (fun H locs hP hD hS => ?_)
      have hP : va_P D vwCl (stW cI ad (fx1_count S 4)) H := hP
      have hD : va_D A (stW cI ad (fx1_count S 4)) := hD
      generalize eS5 : fx1_count S 4 = S5 at hR hP hD
      replace hR := bnd_e hR
      subst hR
      exact krV hx hb hr hlk hP hD hS dX1_deliver_40 rfl

theorem hdX1_deliverVerdicts : yX1_deliverVerdicts.cls = RX1 ∧ yX1_deliverVerdicts.cls ≠ "java/lang/invoke/MethodHandle" ∧ yX1_deliverVerdicts.cls ≠ "java/lang/invoke/VarHandle" ∧ (parseMethodDescriptor yX1_deliverVerdicts.desc).map (fun d => d.parameters.length) = some 0 := by decide +kernel
def fx1_deliverVerdicts_L2 : Nat → Int32 → St → St
  | 0, _, S => S
  | n2 + 1, y1, S => (if (fx2_count 4 200 800 (stT S 2)) ≤ y1 then (bnd (stP S 2 (fx2_removeRowsOf 4 200 800 (stT S 2) (S 3 0))) (fun S2 => S2)) else (if (fx2_get 4 200 800 (stT S 2) y1 0) = (S 3 0) then (bnd (fx1_deliver S y1) (fun S5 => fx1_deliverVerdicts_L2 n2 (y1 + 1) S5)) else fx1_deliverVerdicts_L2 n2 (y1 + 1) S))
def sx1_deliverVerdicts_L2 : Nat → Int32 → St → Prop
  | 0, _, _ => False
  | n2 + 1, y1, S => (if (fx2_count 4 200 800 (stT S 2)) ≤ y1 then sx2_removeRowsOf 4 200 800 (stT S 2) (S 3 0) else (if (fx2_get 4 200 800 (stT S 2) y1 0) = (S 3 0) then (sx1_deliver S y1 ∧ (bnd (fx1_deliver S y1) (fun S5 => sx1_deliverVerdicts_L2 n2 (y1 + 1) S5))) else sx1_deliverVerdicts_L2 n2 (y1 + 1) S))
def fx1_deliverVerdicts (S : St) : St := fx1_deliverVerdicts_L2 kfu 0 S
def sx1_deliverVerdicts (S : St) : Prop := sx1_deliverVerdicts_L2 kfu 0 S
set_option maxHeartbeats 4000000 in
set_option maxRecDepth 100000 in
theorem cx1_deliverVerdicts {l : Launch} {D : va_G} {cI cB cS cJ : ClassId} {K : State → Prop} (E : kE D cI cB cS cJ K) (ad : Nat → Nat) (S : St) (hF : sx1_deliverVerdicts S) : kV l D K yX1_deliverVerdicts wsX1_deliverVerdicts 3 69 [.ref (ad 0)] (stW cI ad S)  (stW cI ad (fx1_deliverVerdicts S)) := by
  refine kV_of (own := RX1) (cc := cX1_deliverVerdicts) (maxL := 2) (tys := kty cI cB cS cJ) (fun U h => (E.2 U h).1) (by decide) rfl rfl (Nat.le_of_ble_eq_true rfl) ?_
  intro p e s m below meth c A ls hx hb hr hml hts hown hlk hKs hK hP hD hA hS hl
  have hl : lv_has ls 2 [(0, .ref (ad 0))] := hl
  have hX : CallFix p m c cX1_deliverVerdicts 2 s _ wsX1_deliverVerdicts RX1 := ⟨hx, hb, hml, hown, hts⟩
  have hinX1 : ∀ w ∈ wsX10, w ∈ wsX1_deliverVerdicts := fun w h => List.mem_cons_of_mem _ (List.mem_append_left _ (List.mem_append_right _ h))
  have q1 := hts (.fieldLink RX1 33 "LabelStation$State" "verdicts" "LLabelStation$Table;") (List.mem_of_getElem? (i := 1) rfl)
  have q2 := hts (.fieldLink RX1 42 "LabelStation$State" "tick" "I") (List.mem_of_getElem? (i := 2) rfl)
  generalize hR : fx1_deliverVerdicts S = R
  rw [fx1_deliverVerdicts] at hR
  rw [sx1_deliverVerdicts] at hF
  refine lv_iconst (v := 0) hx hb dX1_deliverVerdicts_0 (by decide) ?_
  refine lv_istore_n (lv' := [(1, .int 0), (0, .ref (ad 0))]) hx hb dX1_deliverVerdicts_1 rfl hl (by decide) rfl (fun ls hl => ?_)
  have loop2 : ∀ (n2 : Nat) (y1 : Int32) (S : St) (H : Heap) (locs : List Loc) (ls : Array Slot), fx1_deliverVerdicts_L2 n2 y1 S = R → sx1_deliverVerdicts_L2 n2 y1 S → va_P D vwCl (stW cI ad S) H → va_D A (stW cI ad S) → va_S A s.heap H locs → lv_has ls 2 [(1, .int y1), (0, .ref (ad 0))] → W p l e (kRm 3 69) s m ([.ref (ad 0)] : List Value).toArray below meth c H locs 0 0 (kQV D below (stW cI ad R) A ([.ref (ad 0)] : List Value).toArray s) (F0 m 2 ls []) := by
    intro n2
    induction n2 with
    | zero => intro y1 S H locs ls hR hF; exact hF.elim
    | succ n2 ih2 =>
      intro y1 S H locs ls hR hF hP hD hS hl
      rw [fx1_deliverVerdicts_L2] at hR
      rw [sx1_deliverVerdicts_L2] at hF
      refine lv_iload_n hx hb dX1_deliverVerdicts_2 rfl (lv_at hl 0 rfl) ?_
      refine lv_aload_n hx hb dX1_deliverVerdicts_3 rfl (lv_at hl 1 rfl) ?_
      refine va_get (D := D) (ci := 1) (v := .ref (ad 8)) (C := RX1) (T := TX1) (N := 16) hx hb hts hinX1 hown hK hP 0 rfl rfl 5 (by decide) q1 (fun _ h9 => h9) rfl dX1_deliverVerdicts_4 ?_
      refine kcI (ci := 2) (q0 := 0) (As := []) (rest := [.int y1]) E.1 (cx2_count E (ad 8) (ad 9) 4 200 800 (by decide) (stT S 2)) hX (cwV 0 hts gX1_deliverVerdicts_X2_count rfl rfl rfl hdX2_count ⟨Nat.le_of_ble_eq_true rfl, Nat.le_of_ble_eq_true rfl⟩) hKs hK hP hD hS hA _ _ (st_tb2 cI ad S) (st_tb2 cI ad S).symm rfl rfl rfl rfl hl.1 (Nat.le_of_ble_eq_true rfl) dX1_deliverVerdicts_7 ⟨Nat.zero_le _, Nat.zero_le _⟩ (fun H locs hP hD hS => ?_)
      refine lv_icmp_ge (tgt := 40) hx hb dX1_deliverVerdicts_10 (by decide) (fun c1 => ?_) (fun c1 => ?_)
      · rw [if_pos c1] at hR hF
        refine lv_aload_n hx hb dX1_deliverVerdicts_40 rfl (lv_at hl 1 rfl) ?_
        refine va_get (D := D) (ci := 1) (v := .ref (ad 8)) (C := RX1) (T := TX1) (N := 16) hx hb hts hinX1 hown hK hP 0 rfl rfl 5 (by decide) q1 (fun _ h9 => h9) rfl dX1_deliverVerdicts_41 ?_
        refine lv_aload_n hx hb dX1_deliverVerdicts_44 rfl (lv_at hl 1 rfl) ?_
        refine va_get (D := D) (ci := 1) (v := .int (S 3 0)) (C := RX1) (T := TX1) (N := 16) hx hb hts hinX1 hown hK hP 0 rfl rfl 8 (by decide) q2 (fun _ h9 => h9) rfl dX1_deliverVerdicts_45 ?_
        have hs3 := hF
        refine kcV (ci := 2) (q0 := 0) (As := [.int (S 3 0)]) (rest := []) E.1 (cx2_removeRowsOf E (ad 8) (ad 9) 4 200 800 (by decide) (stT S 2) (S 3 0) hs3) hX (cwV 1 hts gX1_deliverVerdicts_X2_removeRowsOf rfl rfl rfl hdX2_removeRowsOf ⟨Nat.le_of_ble_eq_true rfl, Nat.le_of_ble_eq_true rfl⟩) hKs hK hP hD hS hA _ _ (st_tb2 cI ad S) (st_tb2' cI ad S _) rfl rfl rfl rfl hl.1 (Nat.le_of_ble_eq_true rfl) dX1_deliverVerdicts_48 ⟨Nat.zero_le _, Nat.zero_le _⟩ (fun H locs hP hD hS => ?_)
        have hP : va_P D vwCl (stW cI ad (stP S 2 (fx2_removeRowsOf 4 200 800 (stT S 2) (S 3 0)))) H := hP
        have hD : va_D A (stW cI ad (stP S 2 (fx2_removeRowsOf 4 200 800 (stT S 2) (S 3 0)))) := hD
        generalize eS2 : stP S 2 (fx2_removeRowsOf 4 200 800 (stT S 2) (S 3 0)) = S2 at hR hP hD
        replace hR := bnd_e hR
        subst hR
        exact krV hx hb hr hlk hP hD hS dX1_deliverVerdicts_51 rfl
      · rw [if_neg c1] at hR hF
        refine lv_aload_n hx hb dX1_deliverVerdicts_13 rfl (lv_at hl 1 rfl) ?_
        refine va_get (D := D) (ci := 1) (v := .ref (ad 8)) (C := RX1) (T := TX1) (N := 16) hx hb hts hinX1 hown hK hP 0 rfl rfl 5 (by decide) q1 (fun _ h9 => h9) rfl dX1_deliverVerdicts_14 ?_
        refine lv_iload_n hx hb dX1_deliverVerdicts_17 rfl (lv_at hl 0 rfl) ?_
        refine lv_iconst (v := 0) hx hb dX1_deliverVerdicts_18 (by decide) ?_
        refine kcI (ci := 2) (q0 := 0) (As := [.int y1, .int 0]) (rest := []) E.1 (cx2_get E (ad 8) (ad 9) 4 200 800 (by decide) (stT S 2) y1 0) hX (cwV 2 hts gX1_deliverVerdicts_X2_get rfl rfl rfl hdX2_get ⟨Nat.le_of_ble_eq_true rfl, Nat.le_of_ble_eq_true rfl⟩) hKs hK hP hD hS hA _ _ (st_tb2 cI ad S) (st_tb2 cI ad S).symm rfl rfl rfl rfl hl.1 (Nat.le_of_ble_eq_true rfl) dX1_deliverVerdicts_19 ⟨Nat.zero_le _, Nat.zero_le _⟩ (fun H locs hP hD hS => ?_)
        refine lv_aload_n hx hb dX1_deliverVerdicts_22 rfl (lv_at hl 1 rfl) ?_
        refine va_get (D := D) (ci := 1) (v := .int (S 3 0)) (C := RX1) (T := TX1) (N := 16) hx hb hts hinX1 hown hK hP 0 rfl rfl 8 (by decide) q2 (fun _ h9 => h9) rfl dX1_deliverVerdicts_23 ?_
        refine lv_icmp_ne (tgt := 34) hx hb dX1_deliverVerdicts_26 (by decide) (fun c4 => ?_) (fun c4 => ?_)
        · rw [if_neg c4] at hR hF
          refine lv_iinc (v := y1 + 1) (lv' := [(1, .int (y1 + 1)), (0, .ref (ad 0))]) hx hb dX1_deliverVerdicts_34 hl (k := 0) rfl rfl (by decide) rfl (fun ls hl => ?_)
          refine lv_goto (tgt := 2) hx hb dX1_deliverVerdicts_37 (by decide) ?_
          exact ih2 (y1 + 1) S _ _ ls hR hF hP hD hS (lv_sub hl [0, 1] rfl)
        · rw [if_pos c4] at hR hF
          refine lv_aload_n hx hb dX1_deliverVerdicts_29 rfl (lv_at hl 1 rfl) ?_
          refine lv_iload_n hx hb dX1_deliverVerdicts_30 rfl (lv_at hl 0 rfl) ?_
          obtain ⟨hs6, hF⟩ := hF
          refine kcV (ci := 1) (q0 := 0) (As := [.int y1]) (rest := []) E.1 (cx1_deliver E ad S y1 hs6) hX (cwV 1 hts gX1_deliverVerdicts_X1_deliver rfl rfl rfl hdX1_deliver ⟨Nat.le_of_ble_eq_true rfl, Nat.le_of_ble_eq_true rfl⟩) hKs hK hP hD hS hA _ _ (kw_self _) (kw_self _).symm rfl rfl rfl rfl hl.1 (Nat.le_of_ble_eq_true rfl) dX1_deliverVerdicts_31 ⟨Nat.zero_le _, Nat.zero_le _⟩ (fun H locs hP hD hS => ?_)
          have hP : va_P D vwCl (stW cI ad (fx1_deliver S y1)) H := hP
          have hD : va_D A (stW cI ad (fx1_deliver S y1)) := hD
          generalize eS5 : fx1_deliver S y1 = S5 at hR hF hP hD
          replace hR := bnd_e hR
          replace hF := bnd_p hF
          refine lv_iinc (v := y1 + 1) (lv' := [(1, .int (y1 + 1)), (0, .ref (ad 0))]) hx hb dX1_deliverVerdicts_34 hl (k := 0) rfl rfl (by decide) rfl (fun ls hl => ?_)
          refine lv_goto (tgt := 2) hx hb dX1_deliverVerdicts_37 (by decide) ?_
          exact ih2 (y1 + 1) S5 _ _ ls hR hF hP hD hS (lv_sub hl [0, 1] rfl)
  exact loop2 kfu 0 S _ _ ls hR hF hP hD hS (lv_sub hl [0, 1] rfl)

theorem hdX1_confirmOldest : yX1_confirmOldest.cls = RX1 ∧ yX1_confirmOldest.cls ≠ "java/lang/invoke/MethodHandle" ∧ yX1_confirmOldest.cls ≠ "java/lang/invoke/VarHandle" ∧ (parseMethodDescriptor yX1_confirmOldest.desc).map (fun d => d.parameters.length) = some 0 := by decide +kernel
def fx1_confirmOldest (S : St) : St := (if (fx2_count 1 101 101 (stT S 4)) = 0 then (bnd (fx1_raise S 3) (fun S2 => S2)) else (bnd (stP S 4 (fx2_removeRow 1 101 101 (stT S 4) 0)) (fun S3 => (bnd (fx1_count S3 6) (fun S4 => S4)))))
def sx1_confirmOldest (S : St) : Prop := (if (fx2_count 1 101 101 (stT S 4)) = 0 then True else sx2_removeRow 1 101 101 (stT S 4) 0)
set_option maxHeartbeats 4000000 in
set_option maxRecDepth 100000 in
theorem cx1_confirmOldest {l : Launch} {D : va_G} {cI cB cS cJ : ClassId} {K : State → Prop} (E : kE D cI cB cS cJ K) (ad : Nat → Nat) (S : St) (hF : sx1_confirmOldest S) : kV l D K yX1_confirmOldest wsX1_confirmOldest 2 42 [.ref (ad 0)] (stW cI ad S)  (stW cI ad (fx1_confirmOldest S)) := by
  refine kV_of (own := RX1) (cc := cX1_confirmOldest) (maxL := 1) (tys := kty cI cB cS cJ) (fun U h => (E.2 U h).1) (by decide) rfl rfl (Nat.le_of_ble_eq_true rfl) ?_
  intro p e s m below meth c A ls hx hb hr hml hts hown hlk hKs hK hP hD hA hS hl
  have hl : lv_has ls 1 [(0, .ref (ad 0))] := hl
  have hX : CallFix p m c cX1_confirmOldest 1 s _ wsX1_confirmOldest RX1 := ⟨hx, hb, hml, hown, hts⟩
  have hinX1 : ∀ w ∈ wsX10, w ∈ wsX1_confirmOldest := fun w h => List.mem_cons_of_mem _ (List.mem_append_left _ (List.mem_append_right _ h))
  have q1 := hts (.fieldLink RX1 39 "LabelStation$State" "expectations" "LLabelStation$Table;") (List.mem_of_getElem? (i := 1) rfl)
  generalize hR : fx1_confirmOldest S = R
  rw [fx1_confirmOldest] at hR
  rw [sx1_confirmOldest] at hF
  refine lv_aload_n hx hb dX1_confirmOldest_0 rfl (lv_at hl 0 rfl) ?_
  refine va_get (D := D) (ci := 1) (v := .ref (ad 12)) (C := RX1) (T := TX1) (N := 16) hx hb hts hinX1 hown hK hP 0 rfl rfl 7 (by decide) q1 (fun _ h9 => h9) rfl dX1_confirmOldest_1 ?_
  refine kcI (ci := 2) (q0 := 0) (As := []) (rest := []) E.1 (cx2_count E (ad 12) (ad 13) 1 101 101 (by decide) (stT S 4)) hX (cwV 0 hts gX1_confirmOldest_X2_count rfl rfl rfl hdX2_count ⟨Nat.le_of_ble_eq_true rfl, Nat.le_of_ble_eq_true rfl⟩) hKs hK hP hD hS hA _ _ (st_tb4 cI ad S) (st_tb4 cI ad S).symm rfl rfl rfl rfl hl.1 (Nat.le_of_ble_eq_true rfl) dX1_confirmOldest_4 ⟨Nat.zero_le _, Nat.zero_le _⟩ (fun H locs hP hD hS => ?_)
  refine lv_if_ne (tgt := 16) hx hb dX1_confirmOldest_7 (by decide) (fun c1 => ?_) (fun c1 => ?_)
  · rw [if_neg c1] at hR hF
    refine lv_aload_n hx hb dX1_confirmOldest_16 rfl (lv_at hl 0 rfl) ?_
    refine va_get (D := D) (ci := 1) (v := .ref (ad 12)) (C := RX1) (T := TX1) (N := 16) hx hb hts hinX1 hown hK hP 0 rfl rfl 7 (by decide) q1 (fun _ h9 => h9) rfl dX1_confirmOldest_17 ?_
    refine lv_iconst (v := 0) hx hb dX1_confirmOldest_20 (by decide) ?_
    have hs5 := hF
    refine kcV (ci := 2) (q0 := 0) (As := [.int 0]) (rest := []) E.1 (cx2_removeRow E (ad 12) (ad 13) 1 101 101 (by decide) (stT S 4) 0 hs5) hX (cwV 1 hts gX1_confirmOldest_X2_removeRow rfl rfl rfl hdX2_removeRow ⟨Nat.le_of_ble_eq_true rfl, Nat.le_of_ble_eq_true rfl⟩) hKs hK hP hD hS hA _ _ (st_tb4 cI ad S) (st_tb4' cI ad S _) rfl rfl rfl rfl hl.1 (Nat.le_of_ble_eq_true rfl) dX1_confirmOldest_21 ⟨Nat.zero_le _, Nat.zero_le _⟩ (fun H locs hP hD hS => ?_)
    have hP : va_P D vwCl (stW cI ad (stP S 4 (fx2_removeRow 1 101 101 (stT S 4) 0))) H := hP
    have hD : va_D A (stW cI ad (stP S 4 (fx2_removeRow 1 101 101 (stT S 4) 0))) := hD
    generalize eS3 : stP S 4 (fx2_removeRow 1 101 101 (stT S 4) 0) = S3 at hR hP hD
    replace hR := bnd_e hR
    refine lv_aload_n hx hb dX1_confirmOldest_24 rfl (lv_at hl 0 rfl) ?_
    refine lv_bipush (v := 6) hx hb dX1_confirmOldest_25 (by decide) ?_
    refine kcV (ci := 1) (q0 := 0) (As := [.int 6]) (rest := []) E.1 (cx1_count E ad S3 6) hX (cwV 1 hts gX1_confirmOldest_X1_count rfl rfl rfl hdX1_count ⟨Nat.le_of_ble_eq_true rfl, Nat.le_of_ble_eq_true rfl⟩) hKs hK hP hD hS hA _ _ (kw_self _) (kw_self _).symm rfl rfl rfl rfl hl.1 (Nat.le_of_ble_eq_true rfl) dX1_confirmOldest_27 ⟨Nat.zero_le _, Nat.zero_le _⟩ (fun H locs hP hD hS => ?_)
    have hP : va_P D vwCl (stW cI ad (fx1_count S3 6)) H := hP
    have hD : va_D A (stW cI ad (fx1_count S3 6)) := hD
    generalize eS4 : fx1_count S3 6 = S4 at hR hP hD
    replace hR := bnd_e hR
    subst hR
    exact krV hx hb hr hlk hP hD hS dX1_confirmOldest_30 rfl
  · rw [if_pos c1] at hR hF
    refine lv_aload_n hx hb dX1_confirmOldest_10 rfl (lv_at hl 0 rfl) ?_
    refine lv_iconst (v := 3) hx hb dX1_confirmOldest_11 (by decide) ?_
    refine kcV (ci := 1) (q0 := 0) (As := [.int 3]) (rest := []) E.1 (cx1_raise E ad S 3) hX (cwV 1 hts gX1_confirmOldest_X1_raise rfl rfl rfl hdX1_raise ⟨Nat.le_of_ble_eq_true rfl, Nat.le_of_ble_eq_true rfl⟩) hKs hK hP hD hS hA _ _ (kw_self _) (kw_self _).symm rfl rfl rfl rfl hl.1 (Nat.le_of_ble_eq_true rfl) dX1_confirmOldest_12 ⟨Nat.zero_le _, Nat.zero_le _⟩ (fun H locs hP hD hS => ?_)
    have hP : va_P D vwCl (stW cI ad (fx1_raise S 3)) H := hP
    have hD : va_D A (stW cI ad (fx1_raise S 3)) := hD
    generalize eS2 : fx1_raise S 3 = S2 at hR hP hD
    replace hR := bnd_e hR
    subst hR
    exact krV hx hb hr hlk hP hD hS dX1_confirmOldest_15 rfl

theorem hdX1_fillBin : yX1_fillBin.cls = RX1 ∧ yX1_fillBin.cls ≠ "java/lang/invoke/MethodHandle" ∧ yX1_fillBin.cls ≠ "java/lang/invoke/VarHandle" ∧ (parseMethodDescriptor yX1_fillBin.desc).map (fun d => d.parameters.length) = some 0 := by decide +kernel
def fx1_fillBin_L2 : Nat → Int32 → St → St
  | 0, _, S => S
  | n2 + 1, y1, S => (if (fx2_count 1 50 50 (stT S 3)) ≤ y1 then (bnd (stP S 3 (fx2_removeRowsOf 1 50 50 (stT S 3) (S 3 0))) (fun S2 => S2)) else (if (fx2_get 1 50 50 (stT S 3) y1 0) = (S 3 0) then (bnd (fx1_confirmOldest S) (fun S5 => fx1_fillBin_L2 n2 (y1 + 1) S5)) else fx1_fillBin_L2 n2 (y1 + 1) S))
def sx1_fillBin_L2 : Nat → Int32 → St → Prop
  | 0, _, _ => False
  | n2 + 1, y1, S => (if (fx2_count 1 50 50 (stT S 3)) ≤ y1 then sx2_removeRowsOf 1 50 50 (stT S 3) (S 3 0) else (if (fx2_get 1 50 50 (stT S 3) y1 0) = (S 3 0) then (sx1_confirmOldest S ∧ (bnd (fx1_confirmOldest S) (fun S5 => sx1_fillBin_L2 n2 (y1 + 1) S5))) else sx1_fillBin_L2 n2 (y1 + 1) S))
def fx1_fillBin (S : St) : St := fx1_fillBin_L2 kfu 0 S
def sx1_fillBin (S : St) : Prop := sx1_fillBin_L2 kfu 0 S
set_option maxHeartbeats 4000000 in
set_option maxRecDepth 100000 in
theorem cx1_fillBin {l : Launch} {D : va_G} {cI cB cS cJ : ClassId} {K : State → Prop} (E : kE D cI cB cS cJ K) (ad : Nat → Nat) (S : St) (hF : sx1_fillBin S) : kV l D K yX1_fillBin wsX1_fillBin 3 62 [.ref (ad 0)] (stW cI ad S)  (stW cI ad (fx1_fillBin S)) := by
  refine kV_of (own := RX1) (cc := cX1_fillBin) (maxL := 2) (tys := kty cI cB cS cJ) (fun U h => (E.2 U h).1) (by decide) rfl rfl (Nat.le_of_ble_eq_true rfl) ?_
  intro p e s m below meth c A ls hx hb hr hml hts hown hlk hKs hK hP hD hA hS hl
  have hl : lv_has ls 2 [(0, .ref (ad 0))] := hl
  have hX : CallFix p m c cX1_fillBin 2 s _ wsX1_fillBin RX1 := ⟨hx, hb, hml, hown, hts⟩
  have hinX1 : ∀ w ∈ wsX10, w ∈ wsX1_fillBin := fun w h => List.mem_cons_of_mem _ (List.mem_append_left _ (List.mem_append_right _ h))
  have q1 := hts (.fieldLink RX1 36 "LabelStation$State" "binArrivals" "LLabelStation$Table;") (List.mem_of_getElem? (i := 1) rfl)
  have q2 := hts (.fieldLink RX1 42 "LabelStation$State" "tick" "I") (List.mem_of_getElem? (i := 2) rfl)
  generalize hR : fx1_fillBin S = R
  rw [fx1_fillBin] at hR
  rw [sx1_fillBin] at hF
  refine lv_iconst (v := 0) hx hb dX1_fillBin_0 (by decide) ?_
  refine lv_istore_n (lv' := [(1, .int 0), (0, .ref (ad 0))]) hx hb dX1_fillBin_1 rfl hl (by decide) rfl (fun ls hl => ?_)
  have loop2 : ∀ (n2 : Nat) (y1 : Int32) (S : St) (H : Heap) (locs : List Loc) (ls : Array Slot), fx1_fillBin_L2 n2 y1 S = R → sx1_fillBin_L2 n2 y1 S → va_P D vwCl (stW cI ad S) H → va_D A (stW cI ad S) → va_S A s.heap H locs → lv_has ls 2 [(1, .int y1), (0, .ref (ad 0))] → W p l e (kRm 3 62) s m ([.ref (ad 0)] : List Value).toArray below meth c H locs 0 0 (kQV D below (stW cI ad R) A ([.ref (ad 0)] : List Value).toArray s) (F0 m 2 ls []) := by
    intro n2
    induction n2 with
    | zero => intro y1 S H locs ls hR hF; exact hF.elim
    | succ n2 ih2 =>
      intro y1 S H locs ls hR hF hP hD hS hl
      rw [fx1_fillBin_L2] at hR
      rw [sx1_fillBin_L2] at hF
      refine lv_iload_n hx hb dX1_fillBin_2 rfl (lv_at hl 0 rfl) ?_
      refine lv_aload_n hx hb dX1_fillBin_3 rfl (lv_at hl 1 rfl) ?_
      refine va_get (D := D) (ci := 1) (v := .ref (ad 10)) (C := RX1) (T := TX1) (N := 16) hx hb hts hinX1 hown hK hP 0 rfl rfl 6 (by decide) q1 (fun _ h9 => h9) rfl dX1_fillBin_4 ?_
      refine kcI (ci := 2) (q0 := 0) (As := []) (rest := [.int y1]) E.1 (cx2_count E (ad 10) (ad 11) 1 50 50 (by decide) (stT S 3)) hX (cwV 0 hts gX1_fillBin_X2_count rfl rfl rfl hdX2_count ⟨Nat.le_of_ble_eq_true rfl, Nat.le_of_ble_eq_true rfl⟩) hKs hK hP hD hS hA _ _ (st_tb3 cI ad S) (st_tb3 cI ad S).symm rfl rfl rfl rfl hl.1 (Nat.le_of_ble_eq_true rfl) dX1_fillBin_7 ⟨Nat.zero_le _, Nat.zero_le _⟩ (fun H locs hP hD hS => ?_)
      refine lv_icmp_ge (tgt := 39) hx hb dX1_fillBin_10 (by decide) (fun c1 => ?_) (fun c1 => ?_)
      · rw [if_pos c1] at hR hF
        refine lv_aload_n hx hb dX1_fillBin_39 rfl (lv_at hl 1 rfl) ?_
        refine va_get (D := D) (ci := 1) (v := .ref (ad 10)) (C := RX1) (T := TX1) (N := 16) hx hb hts hinX1 hown hK hP 0 rfl rfl 6 (by decide) q1 (fun _ h9 => h9) rfl dX1_fillBin_40 ?_
        refine lv_aload_n hx hb dX1_fillBin_43 rfl (lv_at hl 1 rfl) ?_
        refine va_get (D := D) (ci := 1) (v := .int (S 3 0)) (C := RX1) (T := TX1) (N := 16) hx hb hts hinX1 hown hK hP 0 rfl rfl 8 (by decide) q2 (fun _ h9 => h9) rfl dX1_fillBin_44 ?_
        have hs3 := hF
        refine kcV (ci := 2) (q0 := 0) (As := [.int (S 3 0)]) (rest := []) E.1 (cx2_removeRowsOf E (ad 10) (ad 11) 1 50 50 (by decide) (stT S 3) (S 3 0) hs3) hX (cwV 1 hts gX1_fillBin_X2_removeRowsOf rfl rfl rfl hdX2_removeRowsOf ⟨Nat.le_of_ble_eq_true rfl, Nat.le_of_ble_eq_true rfl⟩) hKs hK hP hD hS hA _ _ (st_tb3 cI ad S) (st_tb3' cI ad S _) rfl rfl rfl rfl hl.1 (Nat.le_of_ble_eq_true rfl) dX1_fillBin_47 ⟨Nat.zero_le _, Nat.zero_le _⟩ (fun H locs hP hD hS => ?_)
        have hP : va_P D vwCl (stW cI ad (stP S 3 (fx2_removeRowsOf 1 50 50 (stT S 3) (S 3 0)))) H := hP
        have hD : va_D A (stW cI ad (stP S 3 (fx2_removeRowsOf 1 50 50 (stT S 3) (S 3 0)))) := hD
        generalize eS2 : stP S 3 (fx2_removeRowsOf 1 50 50 (stT S 3) (S 3 0)) = S2 at hR hP hD
        replace hR := bnd_e hR
        subst hR
        exact krV hx hb hr hlk hP hD hS dX1_fillBin_50 rfl
      · rw [if_neg c1] at hR hF
        refine lv_aload_n hx hb dX1_fillBin_13 rfl (lv_at hl 1 rfl) ?_
        refine va_get (D := D) (ci := 1) (v := .ref (ad 10)) (C := RX1) (T := TX1) (N := 16) hx hb hts hinX1 hown hK hP 0 rfl rfl 6 (by decide) q1 (fun _ h9 => h9) rfl dX1_fillBin_14 ?_
        refine lv_iload_n hx hb dX1_fillBin_17 rfl (lv_at hl 0 rfl) ?_
        refine lv_iconst (v := 0) hx hb dX1_fillBin_18 (by decide) ?_
        refine kcI (ci := 2) (q0 := 0) (As := [.int y1, .int 0]) (rest := []) E.1 (cx2_get E (ad 10) (ad 11) 1 50 50 (by decide) (stT S 3) y1 0) hX (cwV 2 hts gX1_fillBin_X2_get rfl rfl rfl hdX2_get ⟨Nat.le_of_ble_eq_true rfl, Nat.le_of_ble_eq_true rfl⟩) hKs hK hP hD hS hA _ _ (st_tb3 cI ad S) (st_tb3 cI ad S).symm rfl rfl rfl rfl hl.1 (Nat.le_of_ble_eq_true rfl) dX1_fillBin_19 ⟨Nat.zero_le _, Nat.zero_le _⟩ (fun H locs hP hD hS => ?_)
        refine lv_aload_n hx hb dX1_fillBin_22 rfl (lv_at hl 1 rfl) ?_
        refine va_get (D := D) (ci := 1) (v := .int (S 3 0)) (C := RX1) (T := TX1) (N := 16) hx hb hts hinX1 hown hK hP 0 rfl rfl 8 (by decide) q2 (fun _ h9 => h9) rfl dX1_fillBin_23 ?_
        refine lv_icmp_ne (tgt := 33) hx hb dX1_fillBin_26 (by decide) (fun c4 => ?_) (fun c4 => ?_)
        · rw [if_neg c4] at hR hF
          refine lv_iinc (v := y1 + 1) (lv' := [(1, .int (y1 + 1)), (0, .ref (ad 0))]) hx hb dX1_fillBin_33 hl (k := 0) rfl rfl (by decide) rfl (fun ls hl => ?_)
          refine lv_goto (tgt := 2) hx hb dX1_fillBin_36 (by decide) ?_
          exact ih2 (y1 + 1) S _ _ ls hR hF hP hD hS (lv_sub hl [0, 1] rfl)
        · rw [if_pos c4] at hR hF
          refine lv_aload_n hx hb dX1_fillBin_29 rfl (lv_at hl 1 rfl) ?_
          obtain ⟨hs6, hF⟩ := hF
          refine kcV (ci := 1) (q0 := 0) (As := []) (rest := []) E.1 (cx1_confirmOldest E ad S hs6) hX (cwV 0 hts gX1_fillBin_X1_confirmOldest rfl rfl rfl hdX1_confirmOldest ⟨Nat.le_of_ble_eq_true rfl, Nat.le_of_ble_eq_true rfl⟩) hKs hK hP hD hS hA _ _ (kw_self _) (kw_self _).symm rfl rfl rfl rfl hl.1 (Nat.le_of_ble_eq_true rfl) dX1_fillBin_30 ⟨Nat.zero_le _, Nat.zero_le _⟩ (fun H locs hP hD hS => ?_)
          have hP : va_P D vwCl (stW cI ad (fx1_confirmOldest S)) H := hP
          have hD : va_D A (stW cI ad (fx1_confirmOldest S)) := hD
          generalize eS5 : fx1_confirmOldest S = S5 at hR hF hP hD
          replace hR := bnd_e hR
          replace hF := bnd_p hF
          refine lv_iinc (v := y1 + 1) (lv' := [(1, .int (y1 + 1)), (0, .ref (ad 0))]) hx hb dX1_fillBin_33 hl (k := 0) rfl rfl (by decide) rfl (fun ls hl => ?_)
          refine lv_goto (tgt := 2) hx hb dX1_fillBin_36 (by decide) ?_
          exact ih2 (y1 + 1) S5 _ _ ls hR hF hP hD hS (lv_sub hl [0, 1] rfl)
  exact loop2 kfu 0 S _ _ ls hR hF hP hD hS (lv_sub hl [0, 1] rfl)

theorem hdX1_closeOverdueExpectations : yX1_closeOverdueExpectations.cls = RX1 ∧ yX1_closeOverdueExpectations.cls ≠ "java/lang/invoke/MethodHandle" ∧ yX1_closeOverdueExpectations.cls ≠ "java/lang/invoke/VarHandle" ∧ (parseMethodDescriptor yX1_closeOverdueExpectations.desc).map (fun d => d.parameters.length) = some 0 := by decide +kernel
def fx1_closeOverdueExpectations_L10 : Nat → Int32 → St → St
  | 0, _, S => S
  | n10 + 1, y1, S => (if y1 < 0 then S else (if (S 3 0) ≤ (fx2_get 1 101 101 (stT S 4) y1 0) then fx1_closeOverdueExpectations_L10 n10 (y1 + (-1)) S else (bnd (stP S 4 (fx2_removeRow 1 101 101 (stT S 4) y1)) (fun S3 => (bnd (fx1_raise S3 2) (fun S4 => fx1_closeOverdueExpectations_L10 n10 (y1 + (-1)) S4))))))
def sx1_closeOverdueExpectations_L10 : Nat → Int32 → St → Prop
  | 0, _, _ => False
  | n10 + 1, y1, S => (if y1 < 0 then True else (if (S 3 0) ≤ (fx2_get 1 101 101 (stT S 4) y1 0) then sx1_closeOverdueExpectations_L10 n10 (y1 + (-1)) S else (sx2_removeRow 1 101 101 (stT S 4) y1 ∧ (bnd (stP S 4 (fx2_removeRow 1 101 101 (stT S 4) y1)) (fun S3 => (bnd (fx1_raise S3 2) (fun S4 => sx1_closeOverdueExpectations_L10 n10 (y1 + (-1)) S4)))))))
def fx1_closeOverdueExpectations (S : St) : St := fx1_closeOverdueExpectations_L10 kfu ((fx2_count 1 101 101 (stT S 4)) - 1) S
def sx1_closeOverdueExpectations (S : St) : Prop := sx1_closeOverdueExpectations_L10 kfu ((fx2_count 1 101 101 (stT S 4)) - 1) S
set_option maxHeartbeats 4000000 in
set_option maxRecDepth 100000 in
theorem cx1_closeOverdueExpectations {l : Launch} {D : va_G} {cI cB cS cJ : ClassId} {K : State → Prop} (E : kE D cI cB cS cJ K) (ad : Nat → Nat) (S : St) (hF : sx1_closeOverdueExpectations S) : kV l D K yX1_closeOverdueExpectations wsX1_closeOverdueExpectations 2 42 [.ref (ad 0)] (stW cI ad S)  (stW cI ad (fx1_closeOverdueExpectations S)) := by
  refine kV_of (own := RX1) (cc := cX1_closeOverdueExpectations) (maxL := 2) (tys := kty cI cB cS cJ) (fun U h => (E.2 U h).1) (by decide) rfl rfl (Nat.le_of_ble_eq_true rfl) ?_
  intro p e s m below meth c A ls hx hb hr hml hts hown hlk hKs hK hP hD hA hS hl
  have hl : lv_has ls 2 [(0, .ref (ad 0))] := hl
  have hX : CallFix p m c cX1_closeOverdueExpectations 2 s _ wsX1_closeOverdueExpectations RX1 := ⟨hx, hb, hml, hown, hts⟩
  have hinX1 : ∀ w ∈ wsX10, w ∈ wsX1_closeOverdueExpectations := fun w h => List.mem_cons_of_mem _ (List.mem_append_left _ (List.mem_append_right _ h))
  have q1 := hts (.fieldLink RX1 39 "LabelStation$State" "expectations" "LLabelStation$Table;") (List.mem_of_getElem? (i := 1) rfl)
  have q2 := hts (.fieldLink RX1 42 "LabelStation$State" "tick" "I") (List.mem_of_getElem? (i := 2) rfl)
  generalize hR : fx1_closeOverdueExpectations S = R
  rw [fx1_closeOverdueExpectations] at hR
  rw [sx1_closeOverdueExpectations] at hF
  refine lv_aload_n hx hb dX1_closeOverdueExpectations_0 rfl (lv_at hl 0 rfl) ?_
  refine va_get (D := D) (ci := 1) (v := .ref (ad 12)) (C := RX1) (T := TX1) (N := 16) hx hb hts hinX1 hown hK hP 0 rfl rfl 7 (by decide) q1 (fun _ h9 => h9) rfl dX1_closeOverdueExpectations_1 ?_
  refine kcI (ci := 2) (q0 := 0) (As := []) (rest := []) E.1 (cx2_count E (ad 12) (ad 13) 1 101 101 (by decide) (stT S 4)) hX (cwV 0 hts gX1_closeOverdueExpectations_X2_count rfl rfl rfl hdX2_count ⟨Nat.le_of_ble_eq_true rfl, Nat.le_of_ble_eq_true rfl⟩) hKs hK hP hD hS hA _ _ (st_tb4 cI ad S) (st_tb4 cI ad S).symm rfl rfl rfl rfl hl.1 (Nat.le_of_ble_eq_true rfl) dX1_closeOverdueExpectations_4 ⟨Nat.zero_le _, Nat.zero_le _⟩ (fun H locs hP hD hS => ?_)
  refine lv_iconst (v := 1) hx hb dX1_closeOverdueExpectations_7 (by decide) ?_
  refine lv_isub hx hb dX1_closeOverdueExpectations_8 ?_
  refine lv_istore_n (lv' := [(1, .int ((fx2_count 1 101 101 (stT S 4)) - 1)), (0, .ref (ad 0))]) hx hb dX1_closeOverdueExpectations_9 rfl hl (by decide) rfl (fun ls hl => ?_)
  have loop10 : ∀ (n10 : Nat) (y1 : Int32) (S : St) (H : Heap) (locs : List Loc) (ls : Array Slot), fx1_closeOverdueExpectations_L10 n10 y1 S = R → sx1_closeOverdueExpectations_L10 n10 y1 S → va_P D vwCl (stW cI ad S) H → va_D A (stW cI ad S) → va_S A s.heap H locs → lv_has ls 2 [(1, .int y1), (0, .ref (ad 0))] → W p l e (kRm 2 42) s m ([.ref (ad 0)] : List Value).toArray below meth c H locs 0 0 (kQV D below (stW cI ad R) A ([.ref (ad 0)] : List Value).toArray s) (F0 m 10 ls []) := by
    intro n10
    induction n10 with
    | zero => intro y1 S H locs ls hR hF; exact hF.elim
    | succ n10 ih10 =>
      intro y1 S H locs ls hR hF hP hD hS hl
      rw [fx1_closeOverdueExpectations_L10] at hR
      rw [sx1_closeOverdueExpectations_L10] at hF
      refine lv_iload_n hx hb dX1_closeOverdueExpectations_10 rfl (lv_at hl 0 rfl) ?_
      refine lv_if_lt (tgt := 49) hx hb dX1_closeOverdueExpectations_11 (by decide) (fun c1 => ?_) (fun c1 => ?_)
      · rw [if_pos c1] at hR hF
        subst hR
        exact krV hx hb hr hlk hP hD hS dX1_closeOverdueExpectations_49 rfl
      · rw [if_neg c1] at hR hF
        refine lv_aload_n hx hb dX1_closeOverdueExpectations_14 rfl (lv_at hl 1 rfl) ?_
        refine va_get (D := D) (ci := 1) (v := .ref (ad 12)) (C := RX1) (T := TX1) (N := 16) hx hb hts hinX1 hown hK hP 0 rfl rfl 7 (by decide) q1 (fun _ h9 => h9) rfl dX1_closeOverdueExpectations_15 ?_
        refine lv_iload_n hx hb dX1_closeOverdueExpectations_18 rfl (lv_at hl 0 rfl) ?_
        refine lv_iconst (v := 0) hx hb dX1_closeOverdueExpectations_19 (by decide) ?_
        refine kcI (ci := 2) (q0 := 0) (As := [.int y1, .int 0]) (rest := []) E.1 (cx2_get E (ad 12) (ad 13) 1 101 101 (by decide) (stT S 4) y1 0) hX (cwV 2 hts gX1_closeOverdueExpectations_X2_get rfl rfl rfl hdX2_get ⟨Nat.le_of_ble_eq_true rfl, Nat.le_of_ble_eq_true rfl⟩) hKs hK hP hD hS hA _ _ (st_tb4 cI ad S) (st_tb4 cI ad S).symm rfl rfl rfl rfl hl.1 (Nat.le_of_ble_eq_true rfl) dX1_closeOverdueExpectations_20 ⟨Nat.zero_le _, Nat.zero_le _⟩ (fun H locs hP hD hS => ?_)
        refine lv_aload_n hx hb dX1_closeOverdueExpectations_23 rfl (lv_at hl 1 rfl) ?_
        refine va_get (D := D) (ci := 1) (v := .int (S 3 0)) (C := RX1) (T := TX1) (N := 16) hx hb hts hinX1 hown hK hP 0 rfl rfl 8 (by decide) q2 (fun _ h9 => h9) rfl dX1_closeOverdueExpectations_24 ?_
        refine lv_icmp_ge (tgt := 43) hx hb dX1_closeOverdueExpectations_27 (by decide) (fun c2 => ?_) (fun c2 => ?_)
        · rw [if_pos c2] at hR hF
          refine lv_iinc (v := y1 + (-1)) (lv' := [(1, .int (y1 + (-1))), (0, .ref (ad 0))]) hx hb dX1_closeOverdueExpectations_43 hl (k := 0) rfl rfl (by decide) rfl (fun ls hl => ?_)
          refine lv_goto (tgt := 10) hx hb dX1_closeOverdueExpectations_46 (by decide) ?_
          exact ih10 (y1 + (-1)) S _ _ ls hR hF hP hD hS (lv_sub hl [0, 1] rfl)
        · rw [if_neg c2] at hR hF
          refine lv_aload_n hx hb dX1_closeOverdueExpectations_30 rfl (lv_at hl 1 rfl) ?_
          refine va_get (D := D) (ci := 1) (v := .ref (ad 12)) (C := RX1) (T := TX1) (N := 16) hx hb hts hinX1 hown hK hP 0 rfl rfl 7 (by decide) q1 (fun _ h9 => h9) rfl dX1_closeOverdueExpectations_31 ?_
          refine lv_iload_n hx hb dX1_closeOverdueExpectations_34 rfl (lv_at hl 0 rfl) ?_
          obtain ⟨hs5, hF⟩ := hF
          refine kcV (ci := 2) (q0 := 0) (As := [.int y1]) (rest := []) E.1 (cx2_removeRow E (ad 12) (ad 13) 1 101 101 (by decide) (stT S 4) y1 hs5) hX (cwV 1 hts gX1_closeOverdueExpectations_X2_removeRow rfl rfl rfl hdX2_removeRow ⟨Nat.le_of_ble_eq_true rfl, Nat.le_of_ble_eq_true rfl⟩) hKs hK hP hD hS hA _ _ (st_tb4 cI ad S) (st_tb4' cI ad S _) rfl rfl rfl rfl hl.1 (Nat.le_of_ble_eq_true rfl) dX1_closeOverdueExpectations_35 ⟨Nat.zero_le _, Nat.zero_le _⟩ (fun H locs hP hD hS => ?_)
          have hP : va_P D vwCl (stW cI ad (stP S 4 (fx2_removeRow 1 101 101 (stT S 4) y1))) H := hP
          have hD : va_D A (stW cI ad (stP S 4 (fx2_removeRow 1 101 101 (stT S 4) y1))) := hD
          generalize eS3 : stP S 4 (fx2_removeRow 1 101 101 (stT S 4) y1) = S3 at hR hF hP hD
          replace hR := bnd_e hR
          replace hF := bnd_p hF
          refine lv_aload_n hx hb dX1_closeOverdueExpectations_38 rfl (lv_at hl 1 rfl) ?_
          refine lv_iconst (v := 2) hx hb dX1_closeOverdueExpectations_39 (by decide) ?_
          refine kcV (ci := 1) (q0 := 0) (As := [.int 2]) (rest := []) E.1 (cx1_raise E ad S3 2) hX (cwV 1 hts gX1_closeOverdueExpectations_X1_raise rfl rfl rfl hdX1_raise ⟨Nat.le_of_ble_eq_true rfl, Nat.le_of_ble_eq_true rfl⟩) hKs hK hP hD hS hA _ _ (kw_self _) (kw_self _).symm rfl rfl rfl rfl hl.1 (Nat.le_of_ble_eq_true rfl) dX1_closeOverdueExpectations_40 ⟨Nat.zero_le _, Nat.zero_le _⟩ (fun H locs hP hD hS => ?_)
          have hP : va_P D vwCl (stW cI ad (fx1_raise S3 2)) H := hP
          have hD : va_D A (stW cI ad (fx1_raise S3 2)) := hD
          generalize eS4 : fx1_raise S3 2 = S4 at hR hF hP hD
          replace hR := bnd_e hR
          replace hF := bnd_p hF
          refine lv_iinc (v := y1 + (-1)) (lv' := [(1, .int (y1 + (-1))), (0, .ref (ad 0))]) hx hb dX1_closeOverdueExpectations_43 hl (k := 0) rfl rfl (by decide) rfl (fun ls hl => ?_)
          refine lv_goto (tgt := 10) hx hb dX1_closeOverdueExpectations_46 (by decide) ?_
          exact ih10 (y1 + (-1)) S4 _ _ ls hR hF hP hD hS (lv_sub hl [0, 1] rfl)
  exact loop10 kfu ((fx2_count 1 101 101 (stT S 4)) - 1) S _ _ ls hR hF hP hD hS (lv_sub hl [0, 1] rfl)

theorem hdX1_itemAt : yX1_itemAt.cls = RX1 ∧ yX1_itemAt.cls ≠ "java/lang/invoke/MethodHandle" ∧ yX1_itemAt.cls ≠ "java/lang/invoke/VarHandle" ∧ (parseMethodDescriptor yX1_itemAt.desc).map (fun d => d.parameters.length) = some 1 := by decide +kernel
def fx1_itemAt_L20 (S : St) : Nat → Int32 → Int32 → Int32 → Int32 → Int32 → Int32
  | 0, _, _, _, _, _ => 0
  | n20 + 1, y1, y2, y3, y4, y5 => (if (fx2_count 4 20 80 (stT S 0)) ≤ y5 then y3 else (bnd (if 0 ≤ ((fx2_get 4 20 80 (stT S 0) y5 1) - y2) then ((fx2_get 4 20 80 (stT S 0) y5 1) - y2) else 0 - ((fx2_get 4 20 80 (stT S 0) y5 1) - y2)) (fun v2 => (if y4 ≤ v2 then fx1_itemAt_L20 S n20 y1 y2 y3 y4 (y5 + 1) else fx1_itemAt_L20 S n20 y1 y2 y5 v2 (y5 + 1)))))
def sx1_itemAt_L20 (S : St) : Nat → Int32 → Int32 → Int32 → Int32 → Int32 → Prop
  | 0, _, _, _, _, _ => False
  | n20 + 1, y1, y2, y3, y4, y5 => (if (fx2_count 4 20 80 (stT S 0)) ≤ y5 then True else (bnd (if 0 ≤ ((fx2_get 4 20 80 (stT S 0) y5 1) - y2) then ((fx2_get 4 20 80 (stT S 0) y5 1) - y2) else 0 - ((fx2_get 4 20 80 (stT S 0) y5 1) - y2)) (fun v2 => (if y4 ≤ v2 then sx1_itemAt_L20 S n20 y1 y2 y3 y4 (y5 + 1) else sx1_itemAt_L20 S n20 y1 y2 y5 v2 (y5 + 1)))))
def fx1_itemAt (S : St) (x1 : Int32) : Int32 := fx1_itemAt_L20 S kfu x1 (fx1_place S x1) (-1) ((fx1_setting S 5) + 1) 0
def sx1_itemAt (S : St) (x1 : Int32) : Prop := sx1_itemAt_L20 S kfu x1 (fx1_place S x1) (-1) ((fx1_setting S 5) + 1) 0
set_option maxHeartbeats 4000000 in
set_option maxRecDepth 100000 in
theorem cx1_itemAt {l : Launch} {D : va_G} {cI cB cS cJ : ClassId} {K : State → Prop} (E : kE D cI cB cS cJ K) (ad : Nat → Nat) (S : St) (x1 : Int32) (hF : sx1_itemAt S x1) : kI l D K yX1_itemAt wsX1_itemAt 1 24 [.ref (ad 0), .int x1] (stW cI ad S) (fx1_itemAt S x1) (stW cI ad S) := by
  refine kI_of (own := RX1) (cc := cX1_itemAt) (maxL := 7) (tys := kty cI cB cS cJ) (fun U h => (E.2 U h).1) (by decide) rfl rfl (Nat.le_of_ble_eq_true rfl) ?_
  intro p e s m below meth c A ls hx hb hr hml hts hown hlk hKs hK hP hD hA hS hl
  have hl : lv_has ls 7 [(0, .ref (ad 0)), (1, .int x1)] := hl
  have hX : CallFix p m c cX1_itemAt 7 s _ wsX1_itemAt RX1 := ⟨hx, hb, hml, hown, hts⟩
  have hinX1 : ∀ w ∈ wsX10, w ∈ wsX1_itemAt := fun w h => List.mem_cons_of_mem _ (List.mem_append_left _ (List.mem_append_right _ h))
  have q1 := hts (.fieldLink RX1 26 "LabelStation$State" "items" "LLabelStation$Table;") (List.mem_of_getElem? (i := 1) rfl)
  have q2 := hts (.methodLink RX1 190 Lib.Math.abs.name) (List.mem_of_getElem? (i := 2) rfl)
  have q3 := hts (.static Lib.Math.abs.name) (List.mem_of_getElem? (i := 3) rfl)
  have q4 := hts (.initialized "java/lang/Math") (List.mem_of_getElem? (i := 4) rfl)
  have q5 := hts (.code Lib.Math.abs.name Lib.Math.abs.code 1 (some .int)) (List.mem_of_getElem? (i := 5) rfl)
  generalize hR : fx1_itemAt S x1 = R
  rw [fx1_itemAt] at hR
  rw [sx1_itemAt] at hF
  refine lv_aload_n hx hb dX1_itemAt_0 rfl (lv_at hl 0 rfl) ?_
  refine lv_iload_n hx hb dX1_itemAt_1 rfl (lv_at hl 1 rfl) ?_
  refine kcI (ci := 1) (q0 := 0) (As := [.int x1]) (rest := []) E.1 (cx1_place E ad S x1) hX (cwV 1 hts gX1_itemAt_X1_place rfl rfl rfl hdX1_place ⟨Nat.le_of_ble_eq_true rfl, Nat.le_of_ble_eq_true rfl⟩) hKs hK hP hD hS hA _ _ (kw_self _) (kw_self _).symm rfl rfl rfl rfl hl.1 (Nat.le_of_ble_eq_true rfl) dX1_itemAt_2 ⟨Nat.zero_le _, Nat.zero_le _⟩ (fun H locs hP hD hS => ?_)
  refine lv_istore_n (lv' := [(2, .int (fx1_place S x1)), (0, .ref (ad 0)), (1, .int x1)]) hx hb dX1_itemAt_5 rfl hl (by decide) rfl (fun ls hl => ?_)
  refine lv_iconst (v := (-1)) hx hb dX1_itemAt_6 (by decide) ?_
  refine lv_istore_n (lv' := [(3, .int (-1)), (2, .int (fx1_place S x1)), (0, .ref (ad 0)), (1, .int x1)]) hx hb dX1_itemAt_7 rfl hl (by decide) rfl (fun ls hl => ?_)
  refine lv_aload_n hx hb dX1_itemAt_8 rfl (lv_at hl 2 rfl) ?_
  refine lv_iconst (v := 5) hx hb dX1_itemAt_9 (by decide) ?_
  refine kcI (ci := 1) (q0 := 0) (As := [.int 5]) (rest := []) E.1 (cx1_setting E ad S 5) hX (cwV 1 hts gX1_itemAt_X1_setting rfl rfl rfl hdX1_setting ⟨Nat.le_of_ble_eq_true rfl, Nat.le_of_ble_eq_true rfl⟩) hKs hK hP hD hS hA _ _ (kw_self _) (kw_self _).symm rfl rfl rfl rfl hl.1 (Nat.le_of_ble_eq_true rfl) dX1_itemAt_10 ⟨Nat.zero_le _, Nat.zero_le _⟩ (fun H locs hP hD hS => ?_)
  refine lv_iconst (v := 1) hx hb dX1_itemAt_13 (by decide) ?_
  refine lv_iadd hx hb dX1_itemAt_14 ?_
  refine lv_istore (lv' := [(4, .int ((fx1_setting S 5) + 1)), (3, .int (-1)), (2, .int (fx1_place S x1)), (0, .ref (ad 0)), (1, .int x1)]) hx hb dX1_itemAt_15 hl (by decide) rfl (fun ls hl => ?_)
  refine lv_iconst (v := 0) hx hb dX1_itemAt_17 (by decide) ?_
  refine lv_istore (lv' := [(5, .int 0), (4, .int ((fx1_setting S 5) + 1)), (3, .int (-1)), (2, .int (fx1_place S x1)), (0, .ref (ad 0)), (1, .int x1)]) hx hb dX1_itemAt_18 hl (by decide) rfl (fun ls hl => ?_)
  have loop20 : ∀ (n20 : Nat) (y1 : Int32) (y2 : Int32) (y3 : Int32) (y4 : Int32) (y5 : Int32) (H : Heap) (locs : List Loc) (ls : Array Slot), fx1_itemAt_L20 S n20 y1 y2 y3 y4 y5 = R → sx1_itemAt_L20 S n20 y1 y2 y3 y4 y5 → va_P D vwCl (stW cI ad S) H → va_D A (stW cI ad S) → va_S A s.heap H locs → lv_has ls 7 [(1, .int y1), (2, .int y2), (3, .int y3), (4, .int y4), (5, .int y5), (0, .ref (ad 0))] → W p l e (kRm 1 24) s m ([.ref (ad 0), .int x1] : List Value).toArray below meth c H locs 0 0 (kQI D below R (stW cI ad S) A ([.ref (ad 0), .int x1] : List Value).toArray s) (F0 m 20 ls []) := by
    intro n20
    induction n20 with
    | zero => intro y1 y2 y3 y4 y5 H locs ls hR hF; exact hF.elim
    | succ n20 ih20 =>
      intro y1 y2 y3 y4 y5 H locs ls hR hF hP hD hS hl
      rw [fx1_itemAt_L20] at hR
      rw [sx1_itemAt_L20] at hF
      refine lv_iload hx hb dX1_itemAt_20 (lv_at hl 4 rfl) ?_
      refine lv_aload_n hx hb dX1_itemAt_22 rfl (lv_at hl 5 rfl) ?_
      refine va_get (D := D) (ci := 1) (v := .ref (ad 4)) (C := RX1) (T := TX1) (N := 16) hx hb hts hinX1 hown hK hP 0 rfl rfl 3 (by decide) q1 (fun _ h9 => h9) rfl dX1_itemAt_23 ?_
      refine kcI (ci := 2) (q0 := 0) (As := []) (rest := [.int y5]) E.1 (cx2_count E (ad 4) (ad 5) 4 20 80 (by decide) (stT S 0)) hX (cwV 0 hts gX1_itemAt_X2_count rfl rfl rfl hdX2_count ⟨Nat.le_of_ble_eq_true rfl, Nat.le_of_ble_eq_true rfl⟩) hKs hK hP hD hS hA _ _ (st_tb0 cI ad S) (st_tb0 cI ad S).symm rfl rfl rfl rfl hl.1 (Nat.le_of_ble_eq_true rfl) dX1_itemAt_26 ⟨Nat.zero_le _, Nat.zero_le _⟩ (fun H locs hP hD hS => ?_)
      refine lv_icmp_ge (tgt := 69) hx hb dX1_itemAt_29 (by decide) (fun c1 => ?_) (fun c1 => ?_)
      · rw [if_pos c1] at hR hF
        refine lv_iload_n hx hb dX1_itemAt_69 rfl (lv_at hl 2 rfl) ?_
        subst hR
        exact krI hx hb hr hlk hP hD hS dX1_itemAt_70 rfl rfl
      · rw [if_neg c1] at hR hF
        refine lv_aload_n hx hb dX1_itemAt_32 rfl (lv_at hl 5 rfl) ?_
        refine va_get (D := D) (ci := 1) (v := .ref (ad 4)) (C := RX1) (T := TX1) (N := 16) hx hb hts hinX1 hown hK hP 0 rfl rfl 3 (by decide) q1 (fun _ h9 => h9) rfl dX1_itemAt_33 ?_
        refine lv_iload hx hb dX1_itemAt_36 (lv_at hl 4 rfl) ?_
        refine lv_iconst (v := 1) hx hb dX1_itemAt_38 (by decide) ?_
        refine kcI (ci := 2) (q0 := 0) (As := [.int y5, .int 1]) (rest := []) E.1 (cx2_get E (ad 4) (ad 5) 4 20 80 (by decide) (stT S 0) y5 1) hX (cwV 2 hts gX1_itemAt_X2_get rfl rfl rfl hdX2_get ⟨Nat.le_of_ble_eq_true rfl, Nat.le_of_ble_eq_true rfl⟩) hKs hK hP hD hS hA _ _ (st_tb0 cI ad S) (st_tb0 cI ad S).symm rfl rfl rfl rfl hl.1 (Nat.le_of_ble_eq_true rfl) dX1_itemAt_39 ⟨Nat.zero_le _, Nat.zero_le _⟩ (fun H locs hP hD hS => ?_)
        refine lv_iload_n hx hb dX1_itemAt_42 rfl (lv_at hl 1 rfl) ?_
        refine lv_isub hx hb dX1_itemAt_43 ?_
        refine va_mabs hx hb (hml.trans hl.1.symm) hown q2 q3 q4 q5 (Nat.le_of_ble_eq_true rfl) (Nat.le_of_ble_eq_true rfl) (Nat.zero_le _) (Nat.zero_le _) dX1_itemAt_44 ?_
        generalize ev2 : (if 0 ≤ ((fx2_get 4 20 80 (stT S 0) y5 1) - y2) then ((fx2_get 4 20 80 (stT S 0) y5 1) - y2) else 0 - ((fx2_get 4 20 80 (stT S 0) y5 1) - y2)) = v2 at hR hF ⊢
        replace hR := bnd_e hR
        replace hF := bnd_p hF
        refine lv_istore (lv' := [(6, .int v2), (1, .int y1), (2, .int y2), (3, .int y3), (4, .int y4), (5, .int y5), (0, .ref (ad 0))]) hx hb dX1_itemAt_47 hl (by decide) rfl (fun ls hl => ?_)
        refine lv_iload hx hb dX1_itemAt_49 (lv_at hl 0 rfl) ?_
        refine lv_iload hx hb dX1_itemAt_51 (lv_at hl 4 rfl) ?_
        refine lv_icmp_ge (tgt := 63) hx hb dX1_itemAt_53 (by decide) (fun c3 => ?_) (fun c3 => ?_)
        · rw [if_pos c3] at hR hF
          refine lv_iinc (v := y5 + 1) (lv' := [(5, .int (y5 + 1)), (6, .int v2), (1, .int y1), (2, .int y2), (3, .int y3), (4, .int y4), (0, .ref (ad 0))]) hx hb dX1_itemAt_63 hl (k := 5) rfl rfl (by decide) rfl (fun ls hl => ?_)
          refine lv_goto (tgt := 20) hx hb dX1_itemAt_66 (by decide) ?_
          exact ih20 y1 y2 y3 y4 (y5 + 1) _ _ ls hR hF hP hD hS (lv_sub hl [2, 3, 4, 5, 0, 6] rfl)
        · rw [if_neg c3] at hR hF
          refine lv_iload hx hb dX1_itemAt_56 (lv_at hl 5 rfl) ?_
          refine lv_istore_n (lv' := [(3, .int y5), (6, .int v2), (1, .int y1), (2, .int y2), (4, .int y4), (5, .int y5), (0, .ref (ad 0))]) hx hb dX1_itemAt_58 rfl hl (by decide) rfl (fun ls hl => ?_)
          refine lv_iload hx hb dX1_itemAt_59 (lv_at hl 1 rfl) ?_
          refine lv_istore (lv' := [(4, .int v2), (3, .int y5), (6, .int v2), (1, .int y1), (2, .int y2), (5, .int y5), (0, .ref (ad 0))]) hx hb dX1_itemAt_61 hl (by decide) rfl (fun ls hl => ?_)
          refine lv_iinc (v := y5 + 1) (lv' := [(5, .int (y5 + 1)), (4, .int v2), (3, .int y5), (6, .int v2), (1, .int y1), (2, .int y2), (0, .ref (ad 0))]) hx hb dX1_itemAt_63 hl (k := 5) rfl rfl (by decide) rfl (fun ls hl => ?_)
          refine lv_goto (tgt := 20) hx hb dX1_itemAt_66 (by decide) ?_
          exact ih20 y1 y2 y5 v2 (y5 + 1) _ _ ls hR hF hP hD hS (lv_sub hl [4, 5, 2, 1, 0, 6] rfl)
  exact loop20 kfu x1 (fx1_place S x1) (-1) ((fx1_setting S 5) + 1) 0 _ _ ls hR hF hP hD hS (lv_sub hl [5, 3, 2, 1, 0, 4] rfl)

theorem hdX1_labelerActs : yX1_labelerActs.cls = RX1 ∧ yX1_labelerActs.cls ≠ "java/lang/invoke/MethodHandle" ∧ yX1_labelerActs.cls ≠ "java/lang/invoke/VarHandle" ∧ (parseMethodDescriptor yX1_labelerActs.desc).map (fun d => d.parameters.length) = some 1 := by decide +kernel
def fx1_labelerActs (S : St) (x1 : Int32) : St := (if (S 3 3) = 0 then (if (fx1_setting S 6) = 0 then (bnd (stP S 1 (fx2_put 6 35 210 (stT S 1) x1 3 1)) (fun S3 => S3)) else (bnd (fx1_putSetting S 6 ((fx1_setting S 6) - 1)) (fun S4 => (bnd (fx1_itemAt S4 0) (fun v5 => (if v5 = (-1) then (bnd (fx1_count S4 5) (fun S7 => S7)) else (bnd (stP S4 0 (fx2_put 4 20 80 (stT S4 0) v5 3 1)) (fun S8 => S8)))))))) else (bnd (stP S 1 (fx2_put 6 35 210 (stT S 1) x1 3 1)) (fun S10 => S10)))
def sx1_labelerActs (S : St) (x1 : Int32) : Prop := (if (S 3 3) = 0 then (if (fx1_setting S 6) = 0 then True else (bnd (fx1_putSetting S 6 ((fx1_setting S 6) - 1)) (fun S4 => sx1_itemAt S4 0))) else True)
set_option maxHeartbeats 4000000 in
set_option maxRecDepth 100000 in
theorem cx1_labelerActs {l : Launch} {D : va_G} {cI cB cS cJ : ClassId} {K : State → Prop} (E : kE D cI cB cS cJ K) (ad : Nat → Nat) (S : St) (x1 : Int32) (hF : sx1_labelerActs S x1) : kV l D K yX1_labelerActs wsX1_labelerActs 2 50 [.ref (ad 0), .int x1] (stW cI ad S)  (stW cI ad (fx1_labelerActs S x1)) := by
  refine kV_of (own := RX1) (cc := cX1_labelerActs) (maxL := 3) (tys := kty cI cB cS cJ) (fun U h => (E.2 U h).1) (by decide) rfl rfl (Nat.le_of_ble_eq_true rfl) ?_
  intro p e s m below meth c A ls hx hb hr hml hts hown hlk hKs hK hP hD hA hS hl
  have hl : lv_has ls 3 [(0, .ref (ad 0)), (1, .int x1)] := hl
  have hX : CallFix p m c cX1_labelerActs 3 s _ wsX1_labelerActs RX1 := ⟨hx, hb, hml, hown, hts⟩
  have hinX1 : ∀ w ∈ wsX10, w ∈ wsX1_labelerActs := fun w h => List.mem_cons_of_mem _ (List.mem_append_left _ (List.mem_append_right _ h))
  have q1 := hts (.fieldLink RX1 53 "LabelStation$State" "jammed" "Z") (List.mem_of_getElem? (i := 1) rfl)
  have q2 := hts (.fieldLink RX1 30 "LabelStation$State" "records" "LLabelStation$Table;") (List.mem_of_getElem? (i := 2) rfl)
  have q3 := hts (.fieldLink RX1 26 "LabelStation$State" "items" "LLabelStation$Table;") (List.mem_of_getElem? (i := 3) rfl)
  generalize hR : fx1_labelerActs S x1 = R
  rw [fx1_labelerActs] at hR
  rw [sx1_labelerActs] at hF
  refine lv_aload_n hx hb dX1_labelerActs_0 rfl (lv_at hl 0 rfl) ?_
  refine va_get (D := D) (ci := 1) (v := .int (S 3 3)) (C := RX1) (T := TX1) (N := 16) hx hb hts hinX1 hown hK hP 0 rfl rfl 11 (by decide) q1 (fun _ h9 => h9) rfl dX1_labelerActs_1 ?_
  refine lv_if_ne (tgt := 16) hx hb dX1_labelerActs_4 (by decide) (fun c1 => ?_) (fun c1 => ?_)
  · rw [if_neg c1] at hR hF
    refine lv_aload_n hx hb dX1_labelerActs_16 rfl (lv_at hl 0 rfl) ?_
    refine va_get (D := D) (ci := 1) (v := .ref (ad 6)) (C := RX1) (T := TX1) (N := 16) hx hb hts hinX1 hown hK hP 0 rfl rfl 4 (by decide) q2 (fun _ h9 => h9) rfl dX1_labelerActs_17 ?_
    refine lv_iload_n hx hb dX1_labelerActs_20 rfl (lv_at hl 1 rfl) ?_
    refine lv_iconst (v := 3) hx hb dX1_labelerActs_21 (by decide) ?_
    refine lv_iconst (v := 1) hx hb dX1_labelerActs_22 (by decide) ?_
    refine kcV (ci := 2) (q0 := 0) (As := [.int x1, .int 3, .int 1]) (rest := []) E.1 (cx2_put E (ad 6) (ad 7) 6 35 210 (by decide) (stT S 1) x1 3 1) hX (cwV 3 hts gX1_labelerActs_X2_put rfl rfl rfl hdX2_put ⟨Nat.le_of_ble_eq_true rfl, Nat.le_of_ble_eq_true rfl⟩) hKs hK hP hD hS hA _ _ (st_tb1 cI ad S) (st_tb1' cI ad S _) rfl rfl rfl rfl hl.1 (Nat.le_of_ble_eq_true rfl) dX1_labelerActs_23 ⟨Nat.zero_le _, Nat.zero_le _⟩ (fun H locs hP hD hS => ?_)
    have hP : va_P D vwCl (stW cI ad (stP S 1 (fx2_put 6 35 210 (stT S 1) x1 3 1))) H := hP
    have hD : va_D A (stW cI ad (stP S 1 (fx2_put 6 35 210 (stT S 1) x1 3 1))) := hD
    generalize eS10 : stP S 1 (fx2_put 6 35 210 (stT S 1) x1 3 1) = S10 at hR hP hD
    replace hR := bnd_e hR
    subst hR
    exact krV hx hb hr hlk hP hD hS dX1_labelerActs_26 rfl
  · rw [if_pos c1] at hR hF
    refine lv_aload_n hx hb dX1_labelerActs_7 rfl (lv_at hl 0 rfl) ?_
    refine lv_bipush (v := 6) hx hb dX1_labelerActs_8 (by decide) ?_
    refine kcI (ci := 1) (q0 := 0) (As := [.int 6]) (rest := []) E.1 (cx1_setting E ad S 6) hX (cwV 1 hts gX1_labelerActs_X1_setting rfl rfl rfl hdX1_setting ⟨Nat.le_of_ble_eq_true rfl, Nat.le_of_ble_eq_true rfl⟩) hKs hK hP hD hS hA _ _ (kw_self _) (kw_self _).symm rfl rfl rfl rfl hl.1 (Nat.le_of_ble_eq_true rfl) dX1_labelerActs_10 ⟨Nat.zero_le _, Nat.zero_le _⟩ (fun H locs hP hD hS => ?_)
    refine lv_if_ne (tgt := 27) hx hb dX1_labelerActs_13 (by decide) (fun c2 => ?_) (fun c2 => ?_)
    · rw [if_neg c2] at hR hF
      refine lv_aload_n hx hb dX1_labelerActs_27 rfl (lv_at hl 0 rfl) ?_
      refine lv_bipush (v := 6) hx hb dX1_labelerActs_28 (by decide) ?_
      refine lv_aload_n hx hb dX1_labelerActs_30 rfl (lv_at hl 0 rfl) ?_
      refine lv_bipush (v := 6) hx hb dX1_labelerActs_31 (by decide) ?_
      refine kcI (ci := 1) (q0 := 0) (As := [.int 6]) (rest := [.int 6, .ref (ad 0)]) E.1 (cx1_setting E ad S 6) hX (cwV 1 hts gX1_labelerActs_X1_setting rfl rfl rfl hdX1_setting ⟨Nat.le_of_ble_eq_true rfl, Nat.le_of_ble_eq_true rfl⟩) hKs hK hP hD hS hA _ _ (kw_self _) (kw_self _).symm rfl rfl rfl rfl hl.1 (Nat.le_of_ble_eq_true rfl) dX1_labelerActs_33 ⟨Nat.zero_le _, Nat.zero_le _⟩ (fun H locs hP hD hS => ?_)
      refine lv_iconst (v := 1) hx hb dX1_labelerActs_36 (by decide) ?_
      refine lv_isub hx hb dX1_labelerActs_37 ?_
      refine kcV (ci := 1) (q0 := 0) (As := [.int 6, .int ((fx1_setting S 6) - 1)]) (rest := []) E.1 (cx1_putSetting E ad S 6 ((fx1_setting S 6) - 1)) hX (cwV 2 hts gX1_labelerActs_X1_putSetting rfl rfl rfl hdX1_putSetting ⟨Nat.le_of_ble_eq_true rfl, Nat.le_of_ble_eq_true rfl⟩) hKs hK hP hD hS hA _ _ (kw_self _) (kw_self _).symm rfl rfl rfl rfl hl.1 (Nat.le_of_ble_eq_true rfl) dX1_labelerActs_38 ⟨Nat.zero_le _, Nat.zero_le _⟩ (fun H locs hP hD hS => ?_)
      have hP : va_P D vwCl (stW cI ad (fx1_putSetting S 6 ((fx1_setting S 6) - 1))) H := hP
      have hD : va_D A (stW cI ad (fx1_putSetting S 6 ((fx1_setting S 6) - 1))) := hD
      generalize eS4 : fx1_putSetting S 6 ((fx1_setting S 6) - 1) = S4 at hR hF hP hD
      replace hR := bnd_e hR
      replace hF := bnd_p hF
      refine lv_aload_n hx hb dX1_labelerActs_41 rfl (lv_at hl 0 rfl) ?_
      refine lv_iconst (v := 0) hx hb dX1_labelerActs_42 (by decide) ?_
      have hs9 := hF
      refine kcI (ci := 1) (q0 := 0) (As := [.int 0]) (rest := []) E.1 (cx1_itemAt E ad S4 0 hs9) hX (cwV 1 hts gX1_labelerActs_X1_itemAt rfl rfl rfl hdX1_itemAt ⟨Nat.le_of_ble_eq_true rfl, Nat.le_of_ble_eq_true rfl⟩) hKs hK hP hD hS hA _ _ (kw_self _) (kw_self _).symm rfl rfl rfl rfl hl.1 (Nat.le_of_ble_eq_true rfl) dX1_labelerActs_43 ⟨Nat.zero_le _, Nat.zero_le _⟩ (fun H locs hP hD hS => ?_)
      generalize ev5 : fx1_itemAt S4 0 = v5 at hR ⊢
      replace hR := bnd_e hR
      refine lv_istore_n (lv' := [(2, .int v5), (0, .ref (ad 0)), (1, .int x1)]) hx hb dX1_labelerActs_46 rfl hl (by decide) rfl (fun ls hl => ?_)
      refine lv_iload_n hx hb dX1_labelerActs_47 rfl (lv_at hl 0 rfl) ?_
      refine lv_iconst (v := (-1)) hx hb dX1_labelerActs_48 (by decide) ?_
      refine lv_icmp_ne (tgt := 60) hx hb dX1_labelerActs_49 (by decide) (fun c6 => ?_) (fun c6 => ?_)
      · rw [if_neg c6] at hR
        refine lv_aload_n hx hb dX1_labelerActs_60 rfl (lv_at hl 1 rfl) ?_
        refine va_get (D := D) (ci := 1) (v := .ref (ad 4)) (C := RX1) (T := TX1) (N := 16) hx hb hts hinX1 hown hK hP 0 rfl rfl 3 (by decide) q3 (fun _ h9 => h9) rfl dX1_labelerActs_61 ?_
        refine lv_iload_n hx hb dX1_labelerActs_64 rfl (lv_at hl 0 rfl) ?_
        refine lv_iconst (v := 3) hx hb dX1_labelerActs_65 (by decide) ?_
        refine lv_iconst (v := 1) hx hb dX1_labelerActs_66 (by decide) ?_
        refine kcV (ci := 2) (q0 := 0) (As := [.int v5, .int 3, .int 1]) (rest := []) E.1 (cx2_put E (ad 4) (ad 5) 4 20 80 (by decide) (stT S4 0) v5 3 1) hX (cwV 3 hts gX1_labelerActs_X2_put rfl rfl rfl hdX2_put ⟨Nat.le_of_ble_eq_true rfl, Nat.le_of_ble_eq_true rfl⟩) hKs hK hP hD hS hA _ _ (st_tb0 cI ad S4) (st_tb0' cI ad S4 _) rfl rfl rfl rfl hl.1 (Nat.le_of_ble_eq_true rfl) dX1_labelerActs_67 ⟨Nat.zero_le _, Nat.zero_le _⟩ (fun H locs hP hD hS => ?_)
        have hP : va_P D vwCl (stW cI ad (stP S4 0 (fx2_put 4 20 80 (stT S4 0) v5 3 1))) H := hP
        have hD : va_D A (stW cI ad (stP S4 0 (fx2_put 4 20 80 (stT S4 0) v5 3 1))) := hD
        generalize eS8 : stP S4 0 (fx2_put 4 20 80 (stT S4 0) v5 3 1) = S8 at hR hP hD
        replace hR := bnd_e hR
        subst hR
        exact krV hx hb hr hlk hP hD hS dX1_labelerActs_70 rfl
      · rw [if_pos c6] at hR
        refine lv_aload_n hx hb dX1_labelerActs_52 rfl (lv_at hl 1 rfl) ?_
        refine lv_iconst (v := 5) hx hb dX1_labelerActs_53 (by decide) ?_
        refine kcV (ci := 1) (q0 := 0) (As := [.int 5]) (rest := []) E.1 (cx1_count E ad S4 5) hX (cwV 1 hts gX1_labelerActs_X1_count rfl rfl rfl hdX1_count ⟨Nat.le_of_ble_eq_true rfl, Nat.le_of_ble_eq_true rfl⟩) hKs hK hP hD hS hA _ _ (kw_self _) (kw_self _).symm rfl rfl rfl rfl hl.1 (Nat.le_of_ble_eq_true rfl) dX1_labelerActs_54 ⟨Nat.zero_le _, Nat.zero_le _⟩ (fun H locs hP hD hS => ?_)
        have hP : va_P D vwCl (stW cI ad (fx1_count S4 5)) H := hP
        have hD : va_D A (stW cI ad (fx1_count S4 5)) := hD
        generalize eS7 : fx1_count S4 5 = S7 at hR hP hD
        replace hR := bnd_e hR
        refine lv_goto (tgt := 70) hx hb dX1_labelerActs_57 (by decide) ?_
        subst hR
        exact krV hx hb hr hlk hP hD hS dX1_labelerActs_70 rfl
    · rw [if_pos c2] at hR hF
      refine lv_aload_n hx hb dX1_labelerActs_16 rfl (lv_at hl 0 rfl) ?_
      refine va_get (D := D) (ci := 1) (v := .ref (ad 6)) (C := RX1) (T := TX1) (N := 16) hx hb hts hinX1 hown hK hP 0 rfl rfl 4 (by decide) q2 (fun _ h9 => h9) rfl dX1_labelerActs_17 ?_
      refine lv_iload_n hx hb dX1_labelerActs_20 rfl (lv_at hl 1 rfl) ?_
      refine lv_iconst (v := 3) hx hb dX1_labelerActs_21 (by decide) ?_
      refine lv_iconst (v := 1) hx hb dX1_labelerActs_22 (by decide) ?_
      refine kcV (ci := 2) (q0 := 0) (As := [.int x1, .int 3, .int 1]) (rest := []) E.1 (cx2_put E (ad 6) (ad 7) 6 35 210 (by decide) (stT S 1) x1 3 1) hX (cwV 3 hts gX1_labelerActs_X2_put rfl rfl rfl hdX2_put ⟨Nat.le_of_ble_eq_true rfl, Nat.le_of_ble_eq_true rfl⟩) hKs hK hP hD hS hA _ _ (st_tb1 cI ad S) (st_tb1' cI ad S _) rfl rfl rfl rfl hl.1 (Nat.le_of_ble_eq_true rfl) dX1_labelerActs_23 ⟨Nat.zero_le _, Nat.zero_le _⟩ (fun H locs hP hD hS => ?_)
      have hP : va_P D vwCl (stW cI ad (stP S 1 (fx2_put 6 35 210 (stT S 1) x1 3 1))) H := hP
      have hD : va_D A (stW cI ad (stP S 1 (fx2_put 6 35 210 (stT S 1) x1 3 1))) := hD
      generalize eS3 : stP S 1 (fx2_put 6 35 210 (stT S 1) x1 3 1) = S3 at hR hP hD
      replace hR := bnd_e hR
      subst hR
      exact krV hx hb hr hlk hP hD hS dX1_labelerActs_26 rfl

theorem hdX1_seen : yX1_seen.cls = RX1 ∧ yX1_seen.cls ≠ "java/lang/invoke/MethodHandle" ∧ yX1_seen.cls ≠ "java/lang/invoke/VarHandle" ∧ (parseMethodDescriptor yX1_seen.desc).map (fun d => d.parameters.length) = some 2 := by decide +kernel
def fx1_seen (S : St) (x1 : Int32) (x2 : Int32) : Int32 := (if x1 = (-1) then 2 else (if (fx2_get 4 20 80 (stT S 0) x1 3) = 0 then 2 else (if (fx2_get 4 20 80 (stT S 0) x1 2) = 0 then 1 else (if (fx2_get 4 20 80 (stT S 0) x1 2) = 1 then 2 else (if (fx2_get 4 20 80 (stT S 0) x1 2) = 2 then (if x2 = 0 then 3 else 1) else (if (fx2_get 4 20 80 (stT S 0) x1 2) = 3 then 3 else 2))))))
set_option maxHeartbeats 4000000 in
set_option maxRecDepth 100000 in
theorem cx1_seen {l : Launch} {D : va_G} {cI cB cS cJ : ClassId} {K : State → Prop} (E : kE D cI cB cS cJ K) (ad : Nat → Nat) (S : St) (x1 : Int32) (x2 : Int32) : kI l D K yX1_seen wsX1_seen 1 23 [.ref (ad 0), .int x1, .int x2] (stW cI ad S) (fx1_seen S x1 x2) (stW cI ad S) := by
  refine kI_of (own := RX1) (cc := cX1_seen) (maxL := 3) (tys := kty cI cB cS cJ) (fun U h => (E.2 U h).1) (by decide) rfl rfl (Nat.le_of_ble_eq_true rfl) ?_
  intro p e s m below meth c A ls hx hb hr hml hts hown hlk hKs hK hP hD hA hS hl
  have hl : lv_has ls 3 [(0, .ref (ad 0)), (1, .int x1), (2, .int x2)] := hl
  have hX : CallFix p m c cX1_seen 3 s _ wsX1_seen RX1 := ⟨hx, hb, hml, hown, hts⟩
  have hinX1 : ∀ w ∈ wsX10, w ∈ wsX1_seen := fun w h => List.mem_cons_of_mem _ (List.mem_append_left _ (List.mem_append_right _ h))
  have q1 := hts (.fieldLink RX1 26 "LabelStation$State" "items" "LLabelStation$Table;") (List.mem_of_getElem? (i := 1) rfl)
  generalize hR : fx1_seen S x1 x2 = R
  rw [fx1_seen] at hR
  refine lv_iload_n hx hb dX1_seen_0 rfl (lv_at hl 1 rfl) ?_
  refine lv_iconst (v := (-1)) hx hb dX1_seen_1 (by decide) ?_
  refine lv_icmp_eq (tgt := 17) hx hb dX1_seen_2 (by decide) (fun c1 => ?_) (fun c1 => ?_)
  · rw [if_pos c1] at hR
    refine lv_iconst (v := 2) hx hb dX1_seen_17 (by decide) ?_
    subst hR
    exact krI hx hb hr hlk hP hD hS dX1_seen_18 rfl rfl
  · rw [if_neg c1] at hR
    refine lv_aload_n hx hb dX1_seen_5 rfl (lv_at hl 0 rfl) ?_
    refine va_get (D := D) (ci := 1) (v := .ref (ad 4)) (C := RX1) (T := TX1) (N := 16) hx hb hts hinX1 hown hK hP 0 rfl rfl 3 (by decide) q1 (fun _ h9 => h9) rfl dX1_seen_6 ?_
    refine lv_iload_n hx hb dX1_seen_9 rfl (lv_at hl 1 rfl) ?_
    refine lv_iconst (v := 3) hx hb dX1_seen_10 (by decide) ?_
    refine kcI (ci := 2) (q0 := 0) (As := [.int x1, .int 3]) (rest := []) E.1 (cx2_get E (ad 4) (ad 5) 4 20 80 (by decide) (stT S 0) x1 3) hX (cwV 2 hts gX1_seen_X2_get rfl rfl rfl hdX2_get ⟨Nat.le_of_ble_eq_true rfl, Nat.le_of_ble_eq_true rfl⟩) hKs hK hP hD hS hA _ _ (st_tb0 cI ad S) (st_tb0 cI ad S).symm rfl rfl rfl rfl hl.1 (Nat.le_of_ble_eq_true rfl) dX1_seen_11 ⟨Nat.zero_le _, Nat.zero_le _⟩ (fun H locs hP hD hS => ?_)
    refine lv_if_ne (tgt := 19) hx hb dX1_seen_14 (by decide) (fun c2 => ?_) (fun c2 => ?_)
    · rw [if_neg c2] at hR
      refine lv_aload_n hx hb dX1_seen_19 rfl (lv_at hl 0 rfl) ?_
      refine va_get (D := D) (ci := 1) (v := .ref (ad 4)) (C := RX1) (T := TX1) (N := 16) hx hb hts hinX1 hown hK hP 0 rfl rfl 3 (by decide) q1 (fun _ h9 => h9) rfl dX1_seen_20 ?_
      refine lv_iload_n hx hb dX1_seen_23 rfl (lv_at hl 1 rfl) ?_
      refine lv_iconst (v := 2) hx hb dX1_seen_24 (by decide) ?_
      refine kcI (ci := 2) (q0 := 0) (As := [.int x1, .int 2]) (rest := []) E.1 (cx2_get E (ad 4) (ad 5) 4 20 80 (by decide) (stT S 0) x1 2) hX (cwV 2 hts gX1_seen_X2_get rfl rfl rfl hdX2_get ⟨Nat.le_of_ble_eq_true rfl, Nat.le_of_ble_eq_true rfl⟩) hKs hK hP hD hS hA _ _ (st_tb0 cI ad S) (st_tb0 cI ad S).symm rfl rfl rfl rfl hl.1 (Nat.le_of_ble_eq_true rfl) dX1_seen_25 ⟨Nat.zero_le _, Nat.zero_le _⟩ (fun H locs hP hD hS => ?_)
      rcases Classical.em ((fx2_get 4 20 80 (stT S 0) x1 2) = 0) with c3 | c3
      · rw [if_pos c3] at hR
        refine lv_tableIn (tgt := 60) (off := 32) hx hb dX1_seen_28 (by rw [c3]; decide) (by rw [c3]; decide) (by rw [c3]; rfl) (by decide) ?_
        refine lv_iconst (v := 1) hx hb dX1_seen_60 (by decide) ?_
        subst hR
        exact krI hx hb hr hlk hP hD hS dX1_seen_61 rfl rfl
      · rw [if_neg c3] at hR
        rcases Classical.em ((fx2_get 4 20 80 (stT S 0) x1 2) = 1) with c4 | c4
        · rw [if_pos c4] at hR
          refine lv_tableIn (tgt := 74) (off := 46) hx hb dX1_seen_28 (by rw [c4]; decide) (by rw [c4]; decide) (by rw [c4]; rfl) (by decide) ?_
          refine lv_iconst (v := 2) hx hb dX1_seen_74 (by decide) ?_
          subst hR
          exact krI hx hb hr hlk hP hD hS dX1_seen_75 rfl rfl
        · rw [if_neg c4] at hR
          rcases Classical.em ((fx2_get 4 20 80 (stT S 0) x1 2) = 2) with c5 | c5
          · rw [if_pos c5] at hR
            refine lv_tableIn (tgt := 62) (off := 34) hx hb dX1_seen_28 (by rw [c5]; decide) (by rw [c5]; decide) (by rw [c5]; rfl) (by decide) ?_
            refine lv_iload_n hx hb dX1_seen_62 rfl (lv_at hl 2 rfl) ?_
            refine lv_if_eq (tgt := 70) hx hb dX1_seen_63 (by decide) (fun c6 => ?_) (fun c6 => ?_)
            · rw [if_pos c6] at hR
              refine lv_iconst (v := 3) hx hb dX1_seen_70 (by decide) ?_
              subst hR
              exact krI hx hb hr hlk hP hD hS dX1_seen_71 rfl rfl
            · rw [if_neg c6] at hR
              refine lv_iconst (v := 1) hx hb dX1_seen_66 (by decide) ?_
              refine lv_goto (tgt := 71) hx hb dX1_seen_67 (by decide) ?_
              subst hR
              exact krI hx hb hr hlk hP hD hS dX1_seen_71 rfl rfl
          · rw [if_neg c5] at hR
            rcases Classical.em ((fx2_get 4 20 80 (stT S 0) x1 2) = 3) with c7 | c7
            · rw [if_pos c7] at hR
              refine lv_tableIn (tgt := 72) (off := 44) hx hb dX1_seen_28 (by rw [c7]; decide) (by rw [c7]; decide) (by rw [c7]; rfl) (by decide) ?_
              refine lv_iconst (v := 3) hx hb dX1_seen_72 (by decide) ?_
              subst hR
              exact krI hx hb hr hlk hP hD hS dX1_seen_73 rfl rfl
            · rw [if_neg c7] at hR
              refine lv_tableOut (tgt := 74) hx hb dX1_seen_28 (ksw_out4 c3 c4 c5 c7) (by decide) ?_
              refine lv_iconst (v := 2) hx hb dX1_seen_74 (by decide) ?_
              subst hR
              exact krI hx hb hr hlk hP hD hS dX1_seen_75 rfl rfl
    · rw [if_pos c2] at hR
      refine lv_iconst (v := 2) hx hb dX1_seen_17 (by decide) ?_
      subst hR
      exact krI hx hb hr hlk hP hD hS dX1_seen_18 rfl rfl

theorem hdX1_cameraActs : yX1_cameraActs.cls = RX1 ∧ yX1_cameraActs.cls ≠ "java/lang/invoke/MethodHandle" ∧ yX1_cameraActs.cls ≠ "java/lang/invoke/VarHandle" ∧ (parseMethodDescriptor yX1_cameraActs.desc).map (fun d => d.parameters.length) = some 2 := by decide +kernel
def fx1_cameraActs (S : St) (x1 : Int32) (x2 : Int32) : St := (bnd (fx2_addRow 4 200 800 (stT S 2) ((S 3 0) + (fx1_setting S 1))) (fun u1 => (bnd (stP (stP S 2 u1.2) 2 (fx2_put 4 200 800 (stT (stP S 2 u1.2) 2) u1.1 1 (fx2_get 6 35 210 (stT (stP S 2 u1.2) 1) x1 0))) (fun S2 => (if x2 = 0 then (bnd (stP S2 2 (fx2_put 4 200 800 (stT S2 2) u1.1 2 0)) (fun S4 => (bnd (fx1_itemAt S4 1) (fun v5 => (bnd (fx1_seen S4 v5 x2) (fun v6 => (bnd (stP S4 2 (fx2_put 4 200 800 (stT S4 2) u1.1 3 v6)) (fun S7 => S7)))))))) else (bnd (stP S2 2 (fx2_put 4 200 800 (stT S2 2) u1.1 2 1)) (fun S9 => (bnd (fx1_itemAt S9 2) (fun v10 => (bnd (fx1_seen S9 v10 x2) (fun v11 => (bnd (stP S9 2 (fx2_put 4 200 800 (stT S9 2) u1.1 3 v11)) (fun S12 => S12)))))))))))))
def sx1_cameraActs (S : St) (x1 : Int32) (x2 : Int32) : Prop := (sx2_addRow 4 200 800 (stT S 2) ((S 3 0) + (fx1_setting S 1)) ∧ (bnd (fx2_addRow 4 200 800 (stT S 2) ((S 3 0) + (fx1_setting S 1))) (fun u1 => (bnd (stP (stP S 2 u1.2) 2 (fx2_put 4 200 800 (stT (stP S 2 u1.2) 2) u1.1 1 (fx2_get 6 35 210 (stT (stP S 2 u1.2) 1) x1 0))) (fun S2 => (if x2 = 0 then (bnd (stP S2 2 (fx2_put 4 200 800 (stT S2 2) u1.1 2 0)) (fun S4 => sx1_itemAt S4 1)) else (bnd (stP S2 2 (fx2_put 4 200 800 (stT S2 2) u1.1 2 1)) (fun S9 => sx1_itemAt S9 2))))))))
set_option maxHeartbeats 4000000 in
set_option maxRecDepth 100000 in
theorem cx1_cameraActs {l : Launch} {D : va_G} {cI cB cS cJ : ClassId} {K : State → Prop} (E : kE D cI cB cS cJ K) (ad : Nat → Nat) (S : St) (x1 : Int32) (x2 : Int32) (hF : sx1_cameraActs S x1 x2) : kV l D K yX1_cameraActs wsX1_cameraActs 2 50 [.ref (ad 0), .int x1, .int x2] (stW cI ad S)  (stW cI ad (fx1_cameraActs S x1 x2)) := by
  refine kV_of (own := RX1) (cc := cX1_cameraActs) (maxL := 4) (tys := kty cI cB cS cJ) (fun U h => (E.2 U h).1) (by decide) rfl rfl (Nat.le_of_ble_eq_true rfl) ?_
  intro p e s m below meth c A ls hx hb hr hml hts hown hlk hKs hK hP hD hA hS hl
  have hl : lv_has ls 4 [(0, .ref (ad 0)), (1, .int x1), (2, .int x2)] := hl
  have hX : CallFix p m c cX1_cameraActs 4 s _ wsX1_cameraActs RX1 := ⟨hx, hb, hml, hown, hts⟩
  have hinX1 : ∀ w ∈ wsX10, w ∈ wsX1_cameraActs := fun w h => List.mem_cons_of_mem _ (List.mem_append_left _ (List.mem_append_right _ h))
  have q1 := hts (.fieldLink RX1 33 "LabelStation$State" "verdicts" "LLabelStation$Table;") (List.mem_of_getElem? (i := 1) rfl)
  have q2 := hts (.fieldLink RX1 42 "LabelStation$State" "tick" "I") (List.mem_of_getElem? (i := 2) rfl)
  have q3 := hts (.fieldLink RX1 30 "LabelStation$State" "records" "LLabelStation$Table;") (List.mem_of_getElem? (i := 3) rfl)
  generalize hR : fx1_cameraActs S x1 x2 = R
  rw [fx1_cameraActs] at hR
  rw [sx1_cameraActs] at hF
  refine lv_aload_n hx hb dX1_cameraActs_0 rfl (lv_at hl 0 rfl) ?_
  refine va_get (D := D) (ci := 1) (v := .ref (ad 8)) (C := RX1) (T := TX1) (N := 16) hx hb hts hinX1 hown hK hP 0 rfl rfl 5 (by decide) q1 (fun _ h9 => h9) rfl dX1_cameraActs_1 ?_
  refine lv_aload_n hx hb dX1_cameraActs_4 rfl (lv_at hl 0 rfl) ?_
  refine va_get (D := D) (ci := 1) (v := .int (S 3 0)) (C := RX1) (T := TX1) (N := 16) hx hb hts hinX1 hown hK hP 0 rfl rfl 8 (by decide) q2 (fun _ h9 => h9) rfl dX1_cameraActs_5 ?_
  refine lv_aload_n hx hb dX1_cameraActs_8 rfl (lv_at hl 0 rfl) ?_
  refine lv_iconst (v := 1) hx hb dX1_cameraActs_9 (by decide) ?_
  refine kcI (ci := 1) (q0 := 0) (As := [.int 1]) (rest := [.int (S 3 0), .ref (ad 8)]) E.1 (cx1_setting E ad S 1) hX (cwV 1 hts gX1_cameraActs_X1_setting rfl rfl rfl hdX1_setting ⟨Nat.le_of_ble_eq_true rfl, Nat.le_of_ble_eq_true rfl⟩) hKs hK hP hD hS hA _ _ (kw_self _) (kw_self _).symm rfl rfl rfl rfl hl.1 (Nat.le_of_ble_eq_true rfl) dX1_cameraActs_10 ⟨Nat.zero_le _, Nat.zero_le _⟩ (fun H locs hP hD hS => ?_)
  refine lv_iadd hx hb dX1_cameraActs_13 ?_
  obtain ⟨hs14, hF⟩ := hF
  refine kcI (ci := 2) (q0 := 0) (As := [.int ((S 3 0) + (fx1_setting S 1))]) (rest := []) E.1 (cx2_addRow E (ad 8) (ad 9) 4 200 800 (by decide) (stT S 2) ((S 3 0) + (fx1_setting S 1)) hs14) hX (cwV 1 hts gX1_cameraActs_X2_addRow rfl rfl rfl hdX2_addRow ⟨Nat.le_of_ble_eq_true rfl, Nat.le_of_ble_eq_true rfl⟩) hKs hK hP hD hS hA _ _ (st_tb2 cI ad S) (st_tb2' cI ad S _) rfl rfl rfl rfl hl.1 (Nat.le_of_ble_eq_true rfl) dX1_cameraActs_14 ⟨Nat.zero_le _, Nat.zero_le _⟩ (fun H locs hP hD hS => ?_)
  have hP : va_P D vwCl (stW cI ad (stP S 2 ((fx2_addRow 4 200 800 (stT S 2) ((S 3 0) + (fx1_setting S 1))).2))) H := hP
  have hD : va_D A (stW cI ad (stP S 2 ((fx2_addRow 4 200 800 (stT S 2) ((S 3 0) + (fx1_setting S 1))).2))) := hD
  generalize eu1 : fx2_addRow 4 200 800 (stT S 2) ((S 3 0) + (fx1_setting S 1)) = u1 at hR hF hP hD ⊢
  replace hR := bnd_e hR
  replace hF := bnd_p hF
  refine lv_istore_n (lv' := [(3, .int u1.1), (0, .ref (ad 0)), (1, .int x1), (2, .int x2)]) hx hb dX1_cameraActs_17 rfl hl (by decide) rfl (fun ls hl => ?_)
  refine lv_aload_n hx hb dX1_cameraActs_18 rfl (lv_at hl 1 rfl) ?_
  refine va_get (D := D) (ci := 1) (v := .ref (ad 8)) (C := RX1) (T := TX1) (N := 16) hx hb hts hinX1 hown hK hP 0 rfl rfl 5 (by decide) q1 (fun _ h9 => h9) rfl dX1_cameraActs_19 ?_
  refine lv_iload_n hx hb dX1_cameraActs_22 rfl (lv_at hl 0 rfl) ?_
  refine lv_iconst (v := 1) hx hb dX1_cameraActs_23 (by decide) ?_
  refine lv_aload_n hx hb dX1_cameraActs_24 rfl (lv_at hl 1 rfl) ?_
  refine va_get (D := D) (ci := 1) (v := .ref (ad 6)) (C := RX1) (T := TX1) (N := 16) hx hb hts hinX1 hown hK hP 0 rfl rfl 4 (by decide) q3 (fun _ h9 => h9) rfl dX1_cameraActs_25 ?_
  refine lv_iload_n hx hb dX1_cameraActs_28 rfl (lv_at hl 2 rfl) ?_
  refine lv_iconst (v := 0) hx hb dX1_cameraActs_29 (by decide) ?_
  refine kcI (ci := 2) (q0 := 0) (As := [.int x1, .int 0]) (rest := [.int 1, .int u1.1, .ref (ad 8)]) E.1 (cx2_get E (ad 6) (ad 7) 6 35 210 (by decide) (stT (stP S 2 u1.2) 1) x1 0) hX (cwV 2 hts gX1_cameraActs_X2_get rfl rfl rfl hdX2_get ⟨Nat.le_of_ble_eq_true rfl, Nat.le_of_ble_eq_true rfl⟩) hKs hK hP hD hS hA _ _ (st_tb1 cI ad (stP S 2 u1.2)) (st_tb1 cI ad (stP S 2 u1.2)).symm rfl rfl rfl rfl hl.1 (Nat.le_of_ble_eq_true rfl) dX1_cameraActs_30 ⟨Nat.zero_le _, Nat.zero_le _⟩ (fun H locs hP hD hS => ?_)
  refine kcV (ci := 2) (q0 := 0) (As := [.int u1.1, .int 1, .int (fx2_get 6 35 210 (stT (stP S 2 u1.2) 1) x1 0)]) (rest := []) E.1 (cx2_put E (ad 8) (ad 9) 4 200 800 (by decide) (stT (stP S 2 u1.2) 2) u1.1 1 (fx2_get 6 35 210 (stT (stP S 2 u1.2) 1) x1 0)) hX (cwV 3 hts gX1_cameraActs_X2_put rfl rfl rfl hdX2_put ⟨Nat.le_of_ble_eq_true rfl, Nat.le_of_ble_eq_true rfl⟩) hKs hK hP hD hS hA _ _ (st_tb2 cI ad (stP S 2 u1.2)) (st_tb2' cI ad (stP S 2 u1.2) _) rfl rfl rfl rfl hl.1 (Nat.le_of_ble_eq_true rfl) dX1_cameraActs_33 ⟨Nat.zero_le _, Nat.zero_le _⟩ (fun H locs hP hD hS => ?_)
  have hP : va_P D vwCl (stW cI ad (stP (stP S 2 u1.2) 2 (fx2_put 4 200 800 (stT (stP S 2 u1.2) 2) u1.1 1 (fx2_get 6 35 210 (stT (stP S 2 u1.2) 1) x1 0)))) H := hP
  have hD : va_D A (stW cI ad (stP (stP S 2 u1.2) 2 (fx2_put 4 200 800 (stT (stP S 2 u1.2) 2) u1.1 1 (fx2_get 6 35 210 (stT (stP S 2 u1.2) 1) x1 0)))) := hD
  generalize eS2 : stP (stP S 2 u1.2) 2 (fx2_put 4 200 800 (stT (stP S 2 u1.2) 2) u1.1 1 (fx2_get 6 35 210 (stT (stP S 2 u1.2) 1) x1 0)) = S2 at hR hF hP hD
  replace hR := bnd_e hR
  replace hF := bnd_p hF
  refine lv_aload_n hx hb dX1_cameraActs_36 rfl (lv_at hl 1 rfl) ?_
  refine va_get (D := D) (ci := 1) (v := .ref (ad 8)) (C := RX1) (T := TX1) (N := 16) hx hb hts hinX1 hown hK hP 0 rfl rfl 5 (by decide) q1 (fun _ h9 => h9) rfl dX1_cameraActs_37 ?_
  refine lv_iload_n hx hb dX1_cameraActs_40 rfl (lv_at hl 0 rfl) ?_
  refine lv_iconst (v := 2) hx hb dX1_cameraActs_41 (by decide) ?_
  refine lv_iload_n hx hb dX1_cameraActs_42 rfl (lv_at hl 3 rfl) ?_
  refine lv_if_eq (tgt := 50) hx hb dX1_cameraActs_43 (by decide) (fun c3 => ?_) (fun c3 => ?_)
  · rw [if_pos c3] at hR hF
    refine lv_iconst (v := 0) hx hb dX1_cameraActs_50 (by decide) ?_
    refine kcV (ci := 2) (q0 := 0) (As := [.int u1.1, .int 2, .int 0]) (rest := []) E.1 (cx2_put E (ad 8) (ad 9) 4 200 800 (by decide) (stT S2 2) u1.1 2 0) hX (cwV 3 hts gX1_cameraActs_X2_put rfl rfl rfl hdX2_put ⟨Nat.le_of_ble_eq_true rfl, Nat.le_of_ble_eq_true rfl⟩) hKs hK hP hD hS hA _ _ (st_tb2 cI ad S2) (st_tb2' cI ad S2 _) rfl rfl rfl rfl hl.1 (Nat.le_of_ble_eq_true rfl) dX1_cameraActs_51 ⟨Nat.zero_le _, Nat.zero_le _⟩ (fun H locs hP hD hS => ?_)
    have hP : va_P D vwCl (stW cI ad (stP S2 2 (fx2_put 4 200 800 (stT S2 2) u1.1 2 0))) H := hP
    have hD : va_D A (stW cI ad (stP S2 2 (fx2_put 4 200 800 (stT S2 2) u1.1 2 0))) := hD
    generalize eS4 : stP S2 2 (fx2_put 4 200 800 (stT S2 2) u1.1 2 0) = S4 at hR hF hP hD
    replace hR := bnd_e hR
    replace hF := bnd_p hF
    refine lv_aload_n hx hb dX1_cameraActs_54 rfl (lv_at hl 1 rfl) ?_
    refine va_get (D := D) (ci := 1) (v := .ref (ad 8)) (C := RX1) (T := TX1) (N := 16) hx hb hts hinX1 hown hK hP 0 rfl rfl 5 (by decide) q1 (fun _ h9 => h9) rfl dX1_cameraActs_55 ?_
    refine lv_iload_n hx hb dX1_cameraActs_58 rfl (lv_at hl 0 rfl) ?_
    refine lv_iconst (v := 3) hx hb dX1_cameraActs_59 (by decide) ?_
    refine lv_aload_n hx hb dX1_cameraActs_60 rfl (lv_at hl 1 rfl) ?_
    refine lv_aload_n hx hb dX1_cameraActs_61 rfl (lv_at hl 1 rfl) ?_
    refine lv_iload_n hx hb dX1_cameraActs_62 rfl (lv_at hl 3 rfl) ?_
    refine lv_if_eq (tgt := 70) hx hb dX1_cameraActs_63 (by decide) (fun _ => ?_) (fun c => absurd c3 c)
    refine lv_iconst (v := 1) hx hb dX1_cameraActs_70 (by decide) ?_
    have hs8 := hF
    refine kcI (ci := 1) (q0 := 0) (As := [.int 1]) (rest := [.ref (ad 0), .int 3, .int u1.1, .ref (ad 8)]) E.1 (cx1_itemAt E ad S4 1 hs8) hX (cwV 1 hts gX1_cameraActs_X1_itemAt rfl rfl rfl hdX1_itemAt ⟨Nat.le_of_ble_eq_true rfl, Nat.le_of_ble_eq_true rfl⟩) hKs hK hP hD hS hA _ _ (kw_self _) (kw_self _).symm rfl rfl rfl rfl hl.1 (Nat.le_of_ble_eq_true rfl) dX1_cameraActs_71 ⟨Nat.zero_le _, Nat.zero_le _⟩ (fun H locs hP hD hS => ?_)
    generalize ev5 : fx1_itemAt S4 1 = v5 at hR ⊢
    replace hR := bnd_e hR
    refine lv_iload_n hx hb dX1_cameraActs_74 rfl (lv_at hl 3 rfl) ?_
    refine kcI (ci := 1) (q0 := 0) (As := [.int v5, .int x2]) (rest := [.int 3, .int u1.1, .ref (ad 8)]) E.1 (cx1_seen E ad S4 v5 x2) hX (cwV 2 hts gX1_cameraActs_X1_seen rfl rfl rfl hdX1_seen ⟨Nat.le_of_ble_eq_true rfl, Nat.le_of_ble_eq_true rfl⟩) hKs hK hP hD hS hA _ _ (kw_self _) (kw_self _).symm rfl rfl rfl rfl hl.1 (Nat.le_of_ble_eq_true rfl) dX1_cameraActs_75 ⟨Nat.zero_le _, Nat.zero_le _⟩ (fun H locs hP hD hS => ?_)
    generalize ev6 : fx1_seen S4 v5 x2 = v6 at hR ⊢
    replace hR := bnd_e hR
    refine kcV (ci := 2) (q0 := 0) (As := [.int u1.1, .int 3, .int v6]) (rest := []) E.1 (cx2_put E (ad 8) (ad 9) 4 200 800 (by decide) (stT S4 2) u1.1 3 v6) hX (cwV 3 hts gX1_cameraActs_X2_put rfl rfl rfl hdX2_put ⟨Nat.le_of_ble_eq_true rfl, Nat.le_of_ble_eq_true rfl⟩) hKs hK hP hD hS hA _ _ (st_tb2 cI ad S4) (st_tb2' cI ad S4 _) rfl rfl rfl rfl hl.1 (Nat.le_of_ble_eq_true rfl) dX1_cameraActs_78 ⟨Nat.zero_le _, Nat.zero_le _⟩ (fun H locs hP hD hS => ?_)
    have hP : va_P D vwCl (stW cI ad (stP S4 2 (fx2_put 4 200 800 (stT S4 2) u1.1 3 v6))) H := hP
    have hD : va_D A (stW cI ad (stP S4 2 (fx2_put 4 200 800 (stT S4 2) u1.1 3 v6))) := hD
    generalize eS7 : stP S4 2 (fx2_put 4 200 800 (stT S4 2) u1.1 3 v6) = S7 at hR hP hD
    replace hR := bnd_e hR
    subst hR
    exact krV hx hb hr hlk hP hD hS dX1_cameraActs_81 rfl
  · rw [if_neg c3] at hR hF
    refine lv_iconst (v := 1) hx hb dX1_cameraActs_46 (by decide) ?_
    refine lv_goto (tgt := 51) hx hb dX1_cameraActs_47 (by decide) ?_
    refine kcV (ci := 2) (q0 := 0) (As := [.int u1.1, .int 2, .int 1]) (rest := []) E.1 (cx2_put E (ad 8) (ad 9) 4 200 800 (by decide) (stT S2 2) u1.1 2 1) hX (cwV 3 hts gX1_cameraActs_X2_put rfl rfl rfl hdX2_put ⟨Nat.le_of_ble_eq_true rfl, Nat.le_of_ble_eq_true rfl⟩) hKs hK hP hD hS hA _ _ (st_tb2 cI ad S2) (st_tb2' cI ad S2 _) rfl rfl rfl rfl hl.1 (Nat.le_of_ble_eq_true rfl) dX1_cameraActs_51 ⟨Nat.zero_le _, Nat.zero_le _⟩ (fun H locs hP hD hS => ?_)
    have hP : va_P D vwCl (stW cI ad (stP S2 2 (fx2_put 4 200 800 (stT S2 2) u1.1 2 1))) H := hP
    have hD : va_D A (stW cI ad (stP S2 2 (fx2_put 4 200 800 (stT S2 2) u1.1 2 1))) := hD
    generalize eS9 : stP S2 2 (fx2_put 4 200 800 (stT S2 2) u1.1 2 1) = S9 at hR hF hP hD
    replace hR := bnd_e hR
    replace hF := bnd_p hF
    refine lv_aload_n hx hb dX1_cameraActs_54 rfl (lv_at hl 1 rfl) ?_
    refine va_get (D := D) (ci := 1) (v := .ref (ad 8)) (C := RX1) (T := TX1) (N := 16) hx hb hts hinX1 hown hK hP 0 rfl rfl 5 (by decide) q1 (fun _ h9 => h9) rfl dX1_cameraActs_55 ?_
    refine lv_iload_n hx hb dX1_cameraActs_58 rfl (lv_at hl 0 rfl) ?_
    refine lv_iconst (v := 3) hx hb dX1_cameraActs_59 (by decide) ?_
    refine lv_aload_n hx hb dX1_cameraActs_60 rfl (lv_at hl 1 rfl) ?_
    refine lv_aload_n hx hb dX1_cameraActs_61 rfl (lv_at hl 1 rfl) ?_
    refine lv_iload_n hx hb dX1_cameraActs_62 rfl (lv_at hl 3 rfl) ?_
    refine lv_if_eq (tgt := 70) hx hb dX1_cameraActs_63 (by decide) (fun c => absurd c c3) (fun _ => ?_)
    refine lv_iconst (v := 2) hx hb dX1_cameraActs_66 (by decide) ?_
    refine lv_goto (tgt := 71) hx hb dX1_cameraActs_67 (by decide) ?_
    have hs13 := hF
    refine kcI (ci := 1) (q0 := 0) (As := [.int 2]) (rest := [.ref (ad 0), .int 3, .int u1.1, .ref (ad 8)]) E.1 (cx1_itemAt E ad S9 2 hs13) hX (cwV 1 hts gX1_cameraActs_X1_itemAt rfl rfl rfl hdX1_itemAt ⟨Nat.le_of_ble_eq_true rfl, Nat.le_of_ble_eq_true rfl⟩) hKs hK hP hD hS hA _ _ (kw_self _) (kw_self _).symm rfl rfl rfl rfl hl.1 (Nat.le_of_ble_eq_true rfl) dX1_cameraActs_71 ⟨Nat.zero_le _, Nat.zero_le _⟩ (fun H locs hP hD hS => ?_)
    generalize ev10 : fx1_itemAt S9 2 = v10 at hR ⊢
    replace hR := bnd_e hR
    refine lv_iload_n hx hb dX1_cameraActs_74 rfl (lv_at hl 3 rfl) ?_
    refine kcI (ci := 1) (q0 := 0) (As := [.int v10, .int x2]) (rest := [.int 3, .int u1.1, .ref (ad 8)]) E.1 (cx1_seen E ad S9 v10 x2) hX (cwV 2 hts gX1_cameraActs_X1_seen rfl rfl rfl hdX1_seen ⟨Nat.le_of_ble_eq_true rfl, Nat.le_of_ble_eq_true rfl⟩) hKs hK hP hD hS hA _ _ (kw_self _) (kw_self _).symm rfl rfl rfl rfl hl.1 (Nat.le_of_ble_eq_true rfl) dX1_cameraActs_75 ⟨Nat.zero_le _, Nat.zero_le _⟩ (fun H locs hP hD hS => ?_)
    generalize ev11 : fx1_seen S9 v10 x2 = v11 at hR ⊢
    replace hR := bnd_e hR
    refine kcV (ci := 2) (q0 := 0) (As := [.int u1.1, .int 3, .int v11]) (rest := []) E.1 (cx2_put E (ad 8) (ad 9) 4 200 800 (by decide) (stT S9 2) u1.1 3 v11) hX (cwV 3 hts gX1_cameraActs_X2_put rfl rfl rfl hdX2_put ⟨Nat.le_of_ble_eq_true rfl, Nat.le_of_ble_eq_true rfl⟩) hKs hK hP hD hS hA _ _ (st_tb2 cI ad S9) (st_tb2' cI ad S9 _) rfl rfl rfl rfl hl.1 (Nat.le_of_ble_eq_true rfl) dX1_cameraActs_78 ⟨Nat.zero_le _, Nat.zero_le _⟩ (fun H locs hP hD hS => ?_)
    have hP : va_P D vwCl (stW cI ad (stP S9 2 (fx2_put 4 200 800 (stT S9 2) u1.1 3 v11))) H := hP
    have hD : va_D A (stW cI ad (stP S9 2 (fx2_put 4 200 800 (stT S9 2) u1.1 3 v11))) := hD
    generalize eS12 : stP S9 2 (fx2_put 4 200 800 (stT S9 2) u1.1 3 v11) = S12 at hR hP hD
    replace hR := bnd_e hR
    subst hR
    exact krV hx hb hr hlk hP hD hS dX1_cameraActs_81 rfl

theorem hdX1_mayPass : yX1_mayPass.cls = RX1 ∧ yX1_mayPass.cls ≠ "java/lang/invoke/MethodHandle" ∧ yX1_mayPass.cls ≠ "java/lang/invoke/VarHandle" ∧ (parseMethodDescriptor yX1_mayPass.desc).map (fun d => d.parameters.length) = some 1 := by decide +kernel
def fx1_mayPass (S : St) (x1 : Int32) : Int32 := (if (fx2_get 6 35 210 (stT S 1) x1 2) = 1 then (if (fx2_get 6 35 210 (stT S 1) x1 3) = 0 then 1 else 0) else 0)
set_option maxHeartbeats 4000000 in
set_option maxRecDepth 100000 in
theorem cx1_mayPass {l : Launch} {D : va_G} {cI cB cS cJ : ClassId} {K : State → Prop} (E : kE D cI cB cS cJ K) (ad : Nat → Nat) (S : St) (x1 : Int32) : kI l D K yX1_mayPass wsX1_mayPass 1 23 [.ref (ad 0), .int x1] (stW cI ad S) (fx1_mayPass S x1) (stW cI ad S) := by
  refine kI_of (own := RX1) (cc := cX1_mayPass) (maxL := 2) (tys := kty cI cB cS cJ) (fun U h => (E.2 U h).1) (by decide) rfl rfl (Nat.le_of_ble_eq_true rfl) ?_
  intro p e s m below meth c A ls hx hb hr hml hts hown hlk hKs hK hP hD hA hS hl
  have hl : lv_has ls 2 [(0, .ref (ad 0)), (1, .int x1)] := hl
  have hX : CallFix p m c cX1_mayPass 2 s _ wsX1_mayPass RX1 := ⟨hx, hb, hml, hown, hts⟩
  have hinX1 : ∀ w ∈ wsX10, w ∈ wsX1_mayPass := fun w h => List.mem_cons_of_mem _ (List.mem_append_left _ (List.mem_append_right _ h))
  have q1 := hts (.fieldLink RX1 30 "LabelStation$State" "records" "LLabelStation$Table;") (List.mem_of_getElem? (i := 1) rfl)
  generalize hR : fx1_mayPass S x1 = R
  rw [fx1_mayPass] at hR
  refine lv_aload_n hx hb dX1_mayPass_0 rfl (lv_at hl 0 rfl) ?_
  refine va_get (D := D) (ci := 1) (v := .ref (ad 6)) (C := RX1) (T := TX1) (N := 16) hx hb hts hinX1 hown hK hP 0 rfl rfl 4 (by decide) q1 (fun _ h9 => h9) rfl dX1_mayPass_1 ?_
  refine lv_iload_n hx hb dX1_mayPass_4 rfl (lv_at hl 1 rfl) ?_
  refine lv_iconst (v := 2) hx hb dX1_mayPass_5 (by decide) ?_
  refine kcI (ci := 2) (q0 := 0) (As := [.int x1, .int 2]) (rest := []) E.1 (cx2_get E (ad 6) (ad 7) 6 35 210 (by decide) (stT S 1) x1 2) hX (cwV 2 hts gX1_mayPass_X2_get rfl rfl rfl hdX2_get ⟨Nat.le_of_ble_eq_true rfl, Nat.le_of_ble_eq_true rfl⟩) hKs hK hP hD hS hA _ _ (st_tb1 cI ad S) (st_tb1 cI ad S).symm rfl rfl rfl rfl hl.1 (Nat.le_of_ble_eq_true rfl) dX1_mayPass_6 ⟨Nat.zero_le _, Nat.zero_le _⟩ (fun H locs hP hD hS => ?_)
  refine lv_iconst (v := 1) hx hb dX1_mayPass_9 (by decide) ?_
  refine lv_icmp_ne (tgt := 29) hx hb dX1_mayPass_10 (by decide) (fun c1 => ?_) (fun c1 => ?_)
  · rw [if_neg c1] at hR
    refine lv_iconst (v := 0) hx hb dX1_mayPass_29 (by decide) ?_
    subst hR
    exact krZ hx hb hr hlk hP hD hS dX1_mayPass_30 (by decide) rfl rfl
  · rw [if_pos c1] at hR
    refine lv_aload_n hx hb dX1_mayPass_13 rfl (lv_at hl 0 rfl) ?_
    refine va_get (D := D) (ci := 1) (v := .ref (ad 6)) (C := RX1) (T := TX1) (N := 16) hx hb hts hinX1 hown hK hP 0 rfl rfl 4 (by decide) q1 (fun _ h9 => h9) rfl dX1_mayPass_14 ?_
    refine lv_iload_n hx hb dX1_mayPass_17 rfl (lv_at hl 1 rfl) ?_
    refine lv_iconst (v := 3) hx hb dX1_mayPass_18 (by decide) ?_
    refine kcI (ci := 2) (q0 := 0) (As := [.int x1, .int 3]) (rest := []) E.1 (cx2_get E (ad 6) (ad 7) 6 35 210 (by decide) (stT S 1) x1 3) hX (cwV 2 hts gX1_mayPass_X2_get rfl rfl rfl hdX2_get ⟨Nat.le_of_ble_eq_true rfl, Nat.le_of_ble_eq_true rfl⟩) hKs hK hP hD hS hA _ _ (st_tb1 cI ad S) (st_tb1 cI ad S).symm rfl rfl rfl rfl hl.1 (Nat.le_of_ble_eq_true rfl) dX1_mayPass_19 ⟨Nat.zero_le _, Nat.zero_le _⟩ (fun H locs hP hD hS => ?_)
    refine lv_if_ne (tgt := 29) hx hb dX1_mayPass_22 (by decide) (fun c2 => ?_) (fun c2 => ?_)
    · rw [if_neg c2] at hR
      refine lv_iconst (v := 0) hx hb dX1_mayPass_29 (by decide) ?_
      subst hR
      exact krZ hx hb hr hlk hP hD hS dX1_mayPass_30 (by decide) rfl rfl
    · rw [if_pos c2] at hR
      refine lv_iconst (v := 1) hx hb dX1_mayPass_25 (by decide) ?_
      refine lv_goto (tgt := 30) hx hb dX1_mayPass_26 (by decide) ?_
      subst hR
      exact krZ hx hb hr hlk hP hD hS dX1_mayPass_30 (by decide) rfl rfl

theorem hdX1_pass : yX1_pass.cls = RX1 ∧ yX1_pass.cls ≠ "java/lang/invoke/MethodHandle" ∧ yX1_pass.cls ≠ "java/lang/invoke/VarHandle" ∧ (parseMethodDescriptor yX1_pass.desc).map (fun d => d.parameters.length) = some 1 := by decide +kernel
def fx1_pass (S : St) (x1 : Int32) : St := (bnd (stP S 1 (fx2_put 6 35 210 (stT S 1) x1 4 1)) (fun S1 => sset S1 3 4 0))
set_option maxHeartbeats 4000000 in
set_option maxRecDepth 100000 in
theorem cx1_pass {l : Launch} {D : va_G} {cI cB cS cJ : ClassId} {K : State → Prop} (E : kE D cI cB cS cJ K) (ad : Nat → Nat) (S : St) (x1 : Int32) : kV l D K yX1_pass wsX1_pass 1 24 [.ref (ad 0), .int x1] (stW cI ad S)  (stW cI ad (fx1_pass S x1)) := by
  refine kV_of (own := RX1) (cc := cX1_pass) (maxL := 2) (tys := kty cI cB cS cJ) (fun U h => (E.2 U h).1) (by decide) rfl rfl (Nat.le_of_ble_eq_true rfl) ?_
  intro p e s m below meth c A ls hx hb hr hml hts hown hlk hKs hK hP hD hA hS hl
  have hl : lv_has ls 2 [(0, .ref (ad 0)), (1, .int x1)] := hl
  have hX : CallFix p m c cX1_pass 2 s _ wsX1_pass RX1 := ⟨hx, hb, hml, hown, hts⟩
  have hinX1 : ∀ w ∈ wsX10, w ∈ wsX1_pass := fun w h => List.mem_cons_of_mem _ (List.mem_append_left _ (List.mem_append_right _ h))
  have q1 := hts (.fieldLink RX1 30 "LabelStation$State" "records" "LLabelStation$Table;") (List.mem_of_getElem? (i := 1) rfl)
  have q2 := hts (.fieldLink RX1 56 "LabelStation$State" "consecutiveRejects" "I") (List.mem_of_getElem? (i := 2) rfl)
  generalize hR : fx1_pass S x1 = R
  rw [fx1_pass] at hR
  refine lv_aload_n hx hb dX1_pass_0 rfl (lv_at hl 0 rfl) ?_
  refine va_get (D := D) (ci := 1) (v := .ref (ad 6)) (C := RX1) (T := TX1) (N := 16) hx hb hts hinX1 hown hK hP 0 rfl rfl 4 (by decide) q1 (fun _ h9 => h9) rfl dX1_pass_1 ?_
  refine lv_iload_n hx hb dX1_pass_4 rfl (lv_at hl 1 rfl) ?_
  refine lv_iconst (v := 4) hx hb dX1_pass_5 (by decide) ?_
  refine lv_iconst (v := 1) hx hb dX1_pass_6 (by decide) ?_
  refine kcV (ci := 2) (q0 := 0) (As := [.int x1, .int 4, .int 1]) (rest := []) E.1 (cx2_put E (ad 6) (ad 7) 6 35 210 (by decide) (stT S 1) x1 4 1) hX (cwV 3 hts gX1_pass_X2_put rfl rfl rfl hdX2_put ⟨Nat.le_of_ble_eq_true rfl, Nat.le_of_ble_eq_true rfl⟩) hKs hK hP hD hS hA _ _ (st_tb1 cI ad S) (st_tb1' cI ad S _) rfl rfl rfl rfl hl.1 (Nat.le_of_ble_eq_true rfl) dX1_pass_7 ⟨Nat.zero_le _, Nat.zero_le _⟩ (fun H locs hP hD hS => ?_)
  have hP : va_P D vwCl (stW cI ad (stP S 1 (fx2_put 6 35 210 (stT S 1) x1 4 1))) H := hP
  have hD : va_D A (stW cI ad (stP S 1 (fx2_put 6 35 210 (stT S 1) x1 4 1))) := hD
  generalize eS1 : stP S 1 (fx2_put 6 35 210 (stT S 1) x1 4 1) = S1 at hR hP hD
  replace hR := bnd_e hR
  refine lv_aload_n hx hb dX1_pass_10 rfl (lv_at hl 0 rfl) ?_
  refine lv_iconst (v := 0) hx hb dX1_pass_11 (by decide) ?_
  refine va_put (D := D) (ci := 1) (v := .int 0) (ty := .int) (C := RX1) (T := TX1) (N := 16) hx hb hts hinX1 tyX1 tyX1_ok nmX1 hown hK hP hD hS 0 rfl rfl 12 (by decide) q2 (fun _ h9 => h9) rfl (by decide +kernel) rfl rfl (Nat.le_of_ble_eq_true rfl) dX1_pass_12 (fun H locs hP hD hS => ?_)
  have hP : va_P D vwCl (stW cI ad (sset S1 3 4 0)) H := hP
  have hD : va_D A (stW cI ad (sset S1 3 4 0)) := hD
  subst hR
  exact krV hx hb hr hlk hP hD hS dX1_pass_15 rfl

theorem hdX1_causeOf : yX1_causeOf.cls = RX1 ∧ yX1_causeOf.cls ≠ "java/lang/invoke/MethodHandle" ∧ yX1_causeOf.cls ≠ "java/lang/invoke/VarHandle" ∧ (parseMethodDescriptor yX1_causeOf.desc).map (fun d => d.parameters.length) = some 1 := by decide +kernel
def fx1_causeOf (S : St) (x1 : Int32) : Int32 := (if (fx2_get 6 35 210 (stT S 1) x1 3) = 1 then 10 else (if (fx2_get 6 35 210 (stT S 1) x1 2) = 2 then 11 else (if (fx2_get 6 35 210 (stT S 1) x1 2) = 3 then 12 else 13)))
set_option maxHeartbeats 4000000 in
set_option maxRecDepth 100000 in
theorem cx1_causeOf {l : Launch} {D : va_G} {cI cB cS cJ : ClassId} {K : State → Prop} (E : kE D cI cB cS cJ K) (ad : Nat → Nat) (S : St) (x1 : Int32) : kI l D K yX1_causeOf wsX1_causeOf 1 23 [.ref (ad 0), .int x1] (stW cI ad S) (fx1_causeOf S x1) (stW cI ad S) := by
  refine kI_of (own := RX1) (cc := cX1_causeOf) (maxL := 2) (tys := kty cI cB cS cJ) (fun U h => (E.2 U h).1) (by decide) rfl rfl (Nat.le_of_ble_eq_true rfl) ?_
  intro p e s m below meth c A ls hx hb hr hml hts hown hlk hKs hK hP hD hA hS hl
  have hl : lv_has ls 2 [(0, .ref (ad 0)), (1, .int x1)] := hl
  have hX : CallFix p m c cX1_causeOf 2 s _ wsX1_causeOf RX1 := ⟨hx, hb, hml, hown, hts⟩
  have hinX1 : ∀ w ∈ wsX10, w ∈ wsX1_causeOf := fun w h => List.mem_cons_of_mem _ (List.mem_append_left _ (List.mem_append_right _ h))
  have q1 := hts (.fieldLink RX1 30 "LabelStation$State" "records" "LLabelStation$Table;") (List.mem_of_getElem? (i := 1) rfl)
  generalize hR : fx1_causeOf S x1 = R
  rw [fx1_causeOf] at hR
  refine lv_aload_n hx hb dX1_causeOf_0 rfl (lv_at hl 0 rfl) ?_
  refine va_get (D := D) (ci := 1) (v := .ref (ad 6)) (C := RX1) (T := TX1) (N := 16) hx hb hts hinX1 hown hK hP 0 rfl rfl 4 (by decide) q1 (fun _ h9 => h9) rfl dX1_causeOf_1 ?_
  refine lv_iload_n hx hb dX1_causeOf_4 rfl (lv_at hl 1 rfl) ?_
  refine lv_iconst (v := 3) hx hb dX1_causeOf_5 (by decide) ?_
  refine kcI (ci := 2) (q0 := 0) (As := [.int x1, .int 3]) (rest := []) E.1 (cx2_get E (ad 6) (ad 7) 6 35 210 (by decide) (stT S 1) x1 3) hX (cwV 2 hts gX1_causeOf_X2_get rfl rfl rfl hdX2_get ⟨Nat.le_of_ble_eq_true rfl, Nat.le_of_ble_eq_true rfl⟩) hKs hK hP hD hS hA _ _ (st_tb1 cI ad S) (st_tb1 cI ad S).symm rfl rfl rfl rfl hl.1 (Nat.le_of_ble_eq_true rfl) dX1_causeOf_6 ⟨Nat.zero_le _, Nat.zero_le _⟩ (fun H locs hP hD hS => ?_)
  refine lv_iconst (v := 1) hx hb dX1_causeOf_9 (by decide) ?_
  refine lv_icmp_ne (tgt := 16) hx hb dX1_causeOf_10 (by decide) (fun c1 => ?_) (fun c1 => ?_)
  · rw [if_neg c1] at hR
    refine lv_aload_n hx hb dX1_causeOf_16 rfl (lv_at hl 0 rfl) ?_
    refine va_get (D := D) (ci := 1) (v := .ref (ad 6)) (C := RX1) (T := TX1) (N := 16) hx hb hts hinX1 hown hK hP 0 rfl rfl 4 (by decide) q1 (fun _ h9 => h9) rfl dX1_causeOf_17 ?_
    refine lv_iload_n hx hb dX1_causeOf_20 rfl (lv_at hl 1 rfl) ?_
    refine lv_iconst (v := 2) hx hb dX1_causeOf_21 (by decide) ?_
    refine kcI (ci := 2) (q0 := 0) (As := [.int x1, .int 2]) (rest := []) E.1 (cx2_get E (ad 6) (ad 7) 6 35 210 (by decide) (stT S 1) x1 2) hX (cwV 2 hts gX1_causeOf_X2_get rfl rfl rfl hdX2_get ⟨Nat.le_of_ble_eq_true rfl, Nat.le_of_ble_eq_true rfl⟩) hKs hK hP hD hS hA _ _ (st_tb1 cI ad S) (st_tb1 cI ad S).symm rfl rfl rfl rfl hl.1 (Nat.le_of_ble_eq_true rfl) dX1_causeOf_22 ⟨Nat.zero_le _, Nat.zero_le _⟩ (fun H locs hP hD hS => ?_)
    rcases Classical.em ((fx2_get 6 35 210 (stT S 1) x1 2) = 2) with c2 | c2
    · rw [if_pos c2] at hR
      refine lv_lookup (tgt := 52) (off := 27) hx hb dX1_causeOf_25 (by decide) (by rw [c2]; rfl) (by decide) ?_
      refine lv_bipush (v := 11) hx hb dX1_causeOf_52 (by decide) ?_
      subst hR
      exact krI hx hb hr hlk hP hD hS dX1_causeOf_54 rfl rfl
    · rw [if_neg c2] at hR
      rcases Classical.em ((fx2_get 6 35 210 (stT S 1) x1 2) = 3) with c3 | c3
      · rw [if_pos c3] at hR
        refine lv_lookup (tgt := 55) (off := 30) hx hb dX1_causeOf_25 (by decide) (by rw [c3]; rfl) (by decide) ?_
        refine lv_bipush (v := 12) hx hb dX1_causeOf_55 (by decide) ?_
        subst hR
        exact krI hx hb hr hlk hP hD hS dX1_causeOf_57 rfl rfl
      · rw [if_neg c3] at hR
        refine lv_lookup (tgt := 58) (off := 33) hx hb dX1_causeOf_25 (by decide) (by rw [lv_osw c2 (by decide)]; rw [lv_osw c3 (by decide)]; rfl) (by decide) ?_
        refine lv_bipush (v := 13) hx hb dX1_causeOf_58 (by decide) ?_
        subst hR
        exact krI hx hb hr hlk hP hD hS dX1_causeOf_60 rfl rfl
  · rw [if_pos c1] at hR
    refine lv_bipush (v := 10) hx hb dX1_causeOf_13 (by decide) ?_
    subst hR
    exact krI hx hb hr hlk hP hD hS dX1_causeOf_15 rfl rfl

theorem hdX1_leaveRegister : yX1_leaveRegister.cls = RX1 ∧ yX1_leaveRegister.cls ≠ "java/lang/invoke/MethodHandle" ∧ yX1_leaveRegister.cls ≠ "java/lang/invoke/VarHandle" ∧ (parseMethodDescriptor yX1_leaveRegister.desc).map (fun d => d.parameters.length) = some 2 := by decide +kernel
def fx1_leaveRegister (S : St) (x1 : Int32) (x2 : Int32) : St := (if (fx2_get 6 35 210 (stT S 1) x1 0) = (S 3 6) then (bnd (fx1_count (sset S 3 7 x2) x2) (fun S2 => (bnd (stP S2 1 (fx2_removeRow 6 35 210 (stT S2 1) x1)) (fun S3 => S3)))) else (bnd (fx1_count S x2) (fun S5 => (bnd (stP S5 1 (fx2_removeRow 6 35 210 (stT S5 1) x1)) (fun S6 => S6)))))
def sx1_leaveRegister (S : St) (x1 : Int32) (x2 : Int32) : Prop := (if (fx2_get 6 35 210 (stT S 1) x1 0) = (S 3 6) then (bnd (fx1_count (sset S 3 7 x2) x2) (fun S2 => sx2_removeRow 6 35 210 (stT S2 1) x1)) else (bnd (fx1_count S x2) (fun S5 => sx2_removeRow 6 35 210 (stT S5 1) x1)))
set_option maxHeartbeats 4000000 in
set_option maxRecDepth 100000 in
theorem cx1_leaveRegister {l : Launch} {D : va_G} {cI cB cS cJ : ClassId} {K : State → Prop} (E : kE D cI cB cS cJ K) (ad : Nat → Nat) (S : St) (x1 : Int32) (x2 : Int32) (hF : sx1_leaveRegister S x1 x2) : kV l D K yX1_leaveRegister wsX1_leaveRegister 1 23 [.ref (ad 0), .int x1, .int x2] (stW cI ad S)  (stW cI ad (fx1_leaveRegister S x1 x2)) := by
  refine kV_of (own := RX1) (cc := cX1_leaveRegister) (maxL := 3) (tys := kty cI cB cS cJ) (fun U h => (E.2 U h).1) (by decide) rfl rfl (Nat.le_of_ble_eq_true rfl) ?_
  intro p e s m below meth c A ls hx hb hr hml hts hown hlk hKs hK hP hD hA hS hl
  have hl : lv_has ls 3 [(0, .ref (ad 0)), (1, .int x1), (2, .int x2)] := hl
  have hX : CallFix p m c cX1_leaveRegister 3 s _ wsX1_leaveRegister RX1 := ⟨hx, hb, hml, hown, hts⟩
  have hinX1 : ∀ w ∈ wsX10, w ∈ wsX1_leaveRegister := fun w h => List.mem_cons_of_mem _ (List.mem_append_left _ (List.mem_append_right _ h))
  have q1 := hts (.fieldLink RX1 30 "LabelStation$State" "records" "LLabelStation$Table;") (List.mem_of_getElem? (i := 1) rfl)
  have q2 := hts (.fieldLink RX1 62 "LabelStation$State" "watched" "I") (List.mem_of_getElem? (i := 2) rfl)
  have q3 := hts (.fieldLink RX1 65 "LabelStation$State" "outcome" "I") (List.mem_of_getElem? (i := 3) rfl)
  generalize hR : fx1_leaveRegister S x1 x2 = R
  rw [fx1_leaveRegister] at hR
  rw [sx1_leaveRegister] at hF
  refine lv_aload_n hx hb dX1_leaveRegister_0 rfl (lv_at hl 0 rfl) ?_
  refine va_get (D := D) (ci := 1) (v := .ref (ad 6)) (C := RX1) (T := TX1) (N := 16) hx hb hts hinX1 hown hK hP 0 rfl rfl 4 (by decide) q1 (fun _ h9 => h9) rfl dX1_leaveRegister_1 ?_
  refine lv_iload_n hx hb dX1_leaveRegister_4 rfl (lv_at hl 1 rfl) ?_
  refine lv_iconst (v := 0) hx hb dX1_leaveRegister_5 (by decide) ?_
  refine kcI (ci := 2) (q0 := 0) (As := [.int x1, .int 0]) (rest := []) E.1 (cx2_get E (ad 6) (ad 7) 6 35 210 (by decide) (stT S 1) x1 0) hX (cwV 2 hts gX1_leaveRegister_X2_get rfl rfl rfl hdX2_get ⟨Nat.le_of_ble_eq_true rfl, Nat.le_of_ble_eq_true rfl⟩) hKs hK hP hD hS hA _ _ (st_tb1 cI ad S) (st_tb1 cI ad S).symm rfl rfl rfl rfl hl.1 (Nat.le_of_ble_eq_true rfl) dX1_leaveRegister_6 ⟨Nat.zero_le _, Nat.zero_le _⟩ (fun H locs hP hD hS => ?_)
  refine lv_aload_n hx hb dX1_leaveRegister_9 rfl (lv_at hl 0 rfl) ?_
  refine va_get (D := D) (ci := 1) (v := .int (S 3 6)) (C := RX1) (T := TX1) (N := 16) hx hb hts hinX1 hown hK hP 0 rfl rfl 14 (by decide) q2 (fun _ h9 => h9) rfl dX1_leaveRegister_10 ?_
  refine lv_icmp_ne (tgt := 21) hx hb dX1_leaveRegister_13 (by decide) (fun c1 => ?_) (fun c1 => ?_)
  · rw [if_neg c1] at hR hF
    refine lv_aload_n hx hb dX1_leaveRegister_21 rfl (lv_at hl 0 rfl) ?_
    refine lv_iload_n hx hb dX1_leaveRegister_22 rfl (lv_at hl 2 rfl) ?_
    refine kcV (ci := 1) (q0 := 0) (As := [.int x2]) (rest := []) E.1 (cx1_count E ad S x2) hX (cwV 1 hts gX1_leaveRegister_X1_count rfl rfl rfl hdX1_count ⟨Nat.le_of_ble_eq_true rfl, Nat.le_of_ble_eq_true rfl⟩) hKs hK hP hD hS hA _ _ (kw_self _) (kw_self _).symm rfl rfl rfl rfl hl.1 (Nat.le_of_ble_eq_true rfl) dX1_leaveRegister_23 ⟨Nat.zero_le _, Nat.zero_le _⟩ (fun H locs hP hD hS => ?_)
    have hP : va_P D vwCl (stW cI ad (fx1_count S x2)) H := hP
    have hD : va_D A (stW cI ad (fx1_count S x2)) := hD
    generalize eS5 : fx1_count S x2 = S5 at hR hF hP hD
    replace hR := bnd_e hR
    replace hF := bnd_p hF
    refine lv_aload_n hx hb dX1_leaveRegister_26 rfl (lv_at hl 0 rfl) ?_
    refine va_get (D := D) (ci := 1) (v := .ref (ad 6)) (C := RX1) (T := TX1) (N := 16) hx hb hts hinX1 hown hK hP 0 rfl rfl 4 (by decide) q1 (fun _ h9 => h9) rfl dX1_leaveRegister_27 ?_
    refine lv_iload_n hx hb dX1_leaveRegister_30 rfl (lv_at hl 1 rfl) ?_
    have hs7 := hF
    refine kcV (ci := 2) (q0 := 0) (As := [.int x1]) (rest := []) E.1 (cx2_removeRow E (ad 6) (ad 7) 6 35 210 (by decide) (stT S5 1) x1 hs7) hX (cwV 1 hts gX1_leaveRegister_X2_removeRow rfl rfl rfl hdX2_removeRow ⟨Nat.le_of_ble_eq_true rfl, Nat.le_of_ble_eq_true rfl⟩) hKs hK hP hD hS hA _ _ (st_tb1 cI ad S5) (st_tb1' cI ad S5 _) rfl rfl rfl rfl hl.1 (Nat.le_of_ble_eq_true rfl) dX1_leaveRegister_31 ⟨Nat.zero_le _, Nat.zero_le _⟩ (fun H locs hP hD hS => ?_)
    have hP : va_P D vwCl (stW cI ad (stP S5 1 (fx2_removeRow 6 35 210 (stT S5 1) x1))) H := hP
    have hD : va_D A (stW cI ad (stP S5 1 (fx2_removeRow 6 35 210 (stT S5 1) x1))) := hD
    generalize eS6 : stP S5 1 (fx2_removeRow 6 35 210 (stT S5 1) x1) = S6 at hR hP hD
    replace hR := bnd_e hR
    subst hR
    exact krV hx hb hr hlk hP hD hS dX1_leaveRegister_34 rfl
  · rw [if_pos c1] at hR hF
    refine lv_aload_n hx hb dX1_leaveRegister_16 rfl (lv_at hl 0 rfl) ?_
    refine lv_iload_n hx hb dX1_leaveRegister_17 rfl (lv_at hl 2 rfl) ?_
    refine va_put (D := D) (ci := 1) (v := .int x2) (ty := .int) (C := RX1) (T := TX1) (N := 16) hx hb hts hinX1 tyX1 tyX1_ok nmX1 hown hK hP hD hS 0 rfl rfl 15 (by decide) q3 (fun _ h9 => h9) rfl (by decide +kernel) rfl rfl (Nat.le_of_ble_eq_true rfl) dX1_leaveRegister_18 (fun H locs hP hD hS => ?_)
    have hP : va_P D vwCl (stW cI ad (sset S 3 7 x2)) H := hP
    have hD : va_D A (stW cI ad (sset S 3 7 x2)) := hD
    refine lv_aload_n hx hb dX1_leaveRegister_21 rfl (lv_at hl 0 rfl) ?_
    refine lv_iload_n hx hb dX1_leaveRegister_22 rfl (lv_at hl 2 rfl) ?_
    refine kcV (ci := 1) (q0 := 0) (As := [.int x2]) (rest := []) E.1 (cx1_count E ad (sset S 3 7 x2) x2) hX (cwV 1 hts gX1_leaveRegister_X1_count rfl rfl rfl hdX1_count ⟨Nat.le_of_ble_eq_true rfl, Nat.le_of_ble_eq_true rfl⟩) hKs hK hP hD hS hA _ _ (kw_self _) (kw_self _).symm rfl rfl rfl rfl hl.1 (Nat.le_of_ble_eq_true rfl) dX1_leaveRegister_23 ⟨Nat.zero_le _, Nat.zero_le _⟩ (fun H locs hP hD hS => ?_)
    have hP : va_P D vwCl (stW cI ad (fx1_count (sset S 3 7 x2) x2)) H := hP
    have hD : va_D A (stW cI ad (fx1_count (sset S 3 7 x2) x2)) := hD
    generalize eS2 : fx1_count (sset S 3 7 x2) x2 = S2 at hR hF hP hD
    replace hR := bnd_e hR
    replace hF := bnd_p hF
    refine lv_aload_n hx hb dX1_leaveRegister_26 rfl (lv_at hl 0 rfl) ?_
    refine va_get (D := D) (ci := 1) (v := .ref (ad 6)) (C := RX1) (T := TX1) (N := 16) hx hb hts hinX1 hown hK hP 0 rfl rfl 4 (by decide) q1 (fun _ h9 => h9) rfl dX1_leaveRegister_27 ?_
    refine lv_iload_n hx hb dX1_leaveRegister_30 rfl (lv_at hl 1 rfl) ?_
    have hs4 := hF
    refine kcV (ci := 2) (q0 := 0) (As := [.int x1]) (rest := []) E.1 (cx2_removeRow E (ad 6) (ad 7) 6 35 210 (by decide) (stT S2 1) x1 hs4) hX (cwV 1 hts gX1_leaveRegister_X2_removeRow rfl rfl rfl hdX2_removeRow ⟨Nat.le_of_ble_eq_true rfl, Nat.le_of_ble_eq_true rfl⟩) hKs hK hP hD hS hA _ _ (st_tb1 cI ad S2) (st_tb1' cI ad S2 _) rfl rfl rfl rfl hl.1 (Nat.le_of_ble_eq_true rfl) dX1_leaveRegister_31 ⟨Nat.zero_le _, Nat.zero_le _⟩ (fun H locs hP hD hS => ?_)
    have hP : va_P D vwCl (stW cI ad (stP S2 1 (fx2_removeRow 6 35 210 (stT S2 1) x1))) H := hP
    have hD : va_D A (stW cI ad (stP S2 1 (fx2_removeRow 6 35 210 (stT S2 1) x1))) := hD
    generalize eS3 : stP S2 1 (fx2_removeRow 6 35 210 (stT S2 1) x1) = S3 at hR hP hD
    replace hR := bnd_e hR
    subst hR
    exact krV hx hb hr hlk hP hD hS dX1_leaveRegister_34 rfl

theorem hdX1_reject : yX1_reject.cls = RX1 ∧ yX1_reject.cls ≠ "java/lang/invoke/MethodHandle" ∧ yX1_reject.cls ≠ "java/lang/invoke/VarHandle" ∧ (parseMethodDescriptor yX1_reject.desc).map (fun d => d.parameters.length) = some 1 := by decide +kernel
def fx1_reject (S : St) (x1 : Int32) : St := (bnd (fx1_causeOf S x1) (fun v1 => (bnd (fx1_count S v1) (fun S2 => (bnd (fx1_leaveRegister S2 x1 2) (fun S3 => (bnd (fx1_itemAt S3 3) (fun v4 => (if v4 = (-1) then (bnd (fx2_addRow 1 101 101 (stT S3 4) ((S3 3 0) + (fx1_setting S3 3))) (fun u6 => (if (((stP S3 4 u6.2) 3 4) + 1) < (fx1_setting (sset (stP S3 4 u6.2) 3 4 (((stP S3 4 u6.2) 3 4) + 1)) 4) then sset (stP S3 4 u6.2) 3 4 (((stP S3 4 u6.2) 3 4) + 1) else (bnd (fx1_raise (sset (stP S3 4 u6.2) 3 4 (((stP S3 4 u6.2) 3 4) + 1)) 1) (fun S8 => sset S8 3 4 0))))) else (bnd (stP S3 0 (fx2_removeRow 4 20 80 (stT S3 0) v4)) (fun S10 => (bnd (fx2_addRow 1 50 50 (stT S10 3) ((S10 3 0) + (fx1_setting S10 2))) (fun u11 => (bnd (fx2_addRow 1 101 101 (stT (sset (stP S10 3 u11.2) 3 5 (((stP S10 3 u11.2) 3 5) + 1)) 4) (((stP S10 3 u11.2) 3 0) + (fx1_setting (sset (stP S10 3 u11.2) 3 5 (((stP S10 3 u11.2) 3 5) + 1)) 3))) (fun u12 => (if (((stP (sset (stP S10 3 u11.2) 3 5 (((stP S10 3 u11.2) 3 5) + 1)) 4 u12.2) 3 4) + 1) < (fx1_setting (sset (stP (sset (stP S10 3 u11.2) 3 5 (((stP S10 3 u11.2) 3 5) + 1)) 4 u12.2) 3 4 (((stP (sset (stP S10 3 u11.2) 3 5 (((stP S10 3 u11.2) 3 5) + 1)) 4 u12.2) 3 4) + 1)) 4) then sset (stP (sset (stP S10 3 u11.2) 3 5 (((stP S10 3 u11.2) 3 5) + 1)) 4 u12.2) 3 4 (((stP (sset (stP S10 3 u11.2) 3 5 (((stP S10 3 u11.2) 3 5) + 1)) 4 u12.2) 3 4) + 1) else (bnd (fx1_raise (sset (stP (sset (stP S10 3 u11.2) 3 5 (((stP S10 3 u11.2) 3 5) + 1)) 4 u12.2) 3 4 (((stP (sset (stP S10 3 u11.2) 3 5 (((stP S10 3 u11.2) 3 5) + 1)) 4 u12.2) 3 4) + 1)) 1) (fun S14 => sset S14 3 4 0))))))))))))))))))
def sx1_reject (S : St) (x1 : Int32) : Prop := (bnd (fx1_causeOf S x1) (fun v1 => (bnd (fx1_count S v1) (fun S2 => (sx1_leaveRegister S2 x1 2 ∧ (bnd (fx1_leaveRegister S2 x1 2) (fun S3 => (sx1_itemAt S3 3 ∧ (bnd (fx1_itemAt S3 3) (fun v4 => (if v4 = (-1) then sx2_addRow 1 101 101 (stT S3 4) ((S3 3 0) + (fx1_setting S3 3)) else (sx2_removeRow 4 20 80 (stT S3 0) v4 ∧ (bnd (stP S3 0 (fx2_removeRow 4 20 80 (stT S3 0) v4)) (fun S10 => (sx2_addRow 1 50 50 (stT S10 3) ((S10 3 0) + (fx1_setting S10 2)) ∧ (bnd (fx2_addRow 1 50 50 (stT S10 3) ((S10 3 0) + (fx1_setting S10 2))) (fun u11 => sx2_addRow 1 101 101 (stT (sset (stP S10 3 u11.2) 3 5 (((stP S10 3 u11.2) 3 5) + 1)) 4) (((stP S10 3 u11.2) 3 0) + (fx1_setting (sset (stP S10 3 u11.2) 3 5 (((stP S10 3 u11.2) 3 5) + 1)) 3)))))))))))))))))))
set_option maxHeartbeats 4000000 in
set_option maxRecDepth 100000 in
theorem cx1_reject {l : Launch} {D : va_G} {cI cB cS cJ : ClassId} {K : State → Prop} (E : kE D cI cB cS cJ K) (ad : Nat → Nat) (S : St) (x1 : Int32) (hF : sx1_reject S x1) : kV l D K yX1_reject wsX1_reject 2 50 [.ref (ad 0), .int x1] (stW cI ad S)  (stW cI ad (fx1_reject S x1)) := by
  refine kV_of (own := RX1) (cc := cX1_reject) (maxL := 3) (tys := kty cI cB cS cJ) (fun U h => (E.2 U h).1) (by decide) rfl rfl (Nat.le_of_ble_eq_true rfl) ?_
  intro p e s m below meth c A ls hx hb hr hml hts hown hlk hKs hK hP hD hA hS hl
  have hl : lv_has ls 3 [(0, .ref (ad 0)), (1, .int x1)] := hl
  have hX : CallFix p m c cX1_reject 3 s _ wsX1_reject RX1 := ⟨hx, hb, hml, hown, hts⟩
  have hinX1 : ∀ w ∈ wsX10, w ∈ wsX1_reject := fun w h => List.mem_cons_of_mem _ (List.mem_append_left _ (List.mem_append_right _ h))
  have q1 := hts (.fieldLink RX1 26 "LabelStation$State" "items" "LLabelStation$Table;") (List.mem_of_getElem? (i := 1) rfl)
  have q2 := hts (.fieldLink RX1 36 "LabelStation$State" "binArrivals" "LLabelStation$Table;") (List.mem_of_getElem? (i := 2) rfl)
  have q3 := hts (.fieldLink RX1 42 "LabelStation$State" "tick" "I") (List.mem_of_getElem? (i := 3) rfl)
  have q4 := hts (.fieldLink RX1 59 "LabelStation$State" "diverted" "I") (List.mem_of_getElem? (i := 4) rfl)
  have q5 := hts (.fieldLink RX1 39 "LabelStation$State" "expectations" "LLabelStation$Table;") (List.mem_of_getElem? (i := 5) rfl)
  have q6 := hts (.fieldLink RX1 56 "LabelStation$State" "consecutiveRejects" "I") (List.mem_of_getElem? (i := 6) rfl)
  generalize hR : fx1_reject S x1 = R
  rw [fx1_reject] at hR
  rw [sx1_reject] at hF
  refine lv_aload_n hx hb dX1_reject_0 rfl (lv_at hl 0 rfl) ?_
  refine lv_aload_n hx hb dX1_reject_1 rfl (lv_at hl 0 rfl) ?_
  refine lv_iload_n hx hb dX1_reject_2 rfl (lv_at hl 1 rfl) ?_
  refine kcI (ci := 1) (q0 := 0) (As := [.int x1]) (rest := [.ref (ad 0)]) E.1 (cx1_causeOf E ad S x1) hX (cwV 1 hts gX1_reject_X1_causeOf rfl rfl rfl hdX1_causeOf ⟨Nat.le_of_ble_eq_true rfl, Nat.le_of_ble_eq_true rfl⟩) hKs hK hP hD hS hA _ _ (kw_self _) (kw_self _).symm rfl rfl rfl rfl hl.1 (Nat.le_of_ble_eq_true rfl) dX1_reject_3 ⟨Nat.zero_le _, Nat.zero_le _⟩ (fun H locs hP hD hS => ?_)
  generalize ev1 : fx1_causeOf S x1 = v1 at hR hF ⊢
  replace hR := bnd_e hR
  replace hF := bnd_p hF
  refine kcV (ci := 1) (q0 := 0) (As := [.int v1]) (rest := []) E.1 (cx1_count E ad S v1) hX (cwV 1 hts gX1_reject_X1_count rfl rfl rfl hdX1_count ⟨Nat.le_of_ble_eq_true rfl, Nat.le_of_ble_eq_true rfl⟩) hKs hK hP hD hS hA _ _ (kw_self _) (kw_self _).symm rfl rfl rfl rfl hl.1 (Nat.le_of_ble_eq_true rfl) dX1_reject_6 ⟨Nat.zero_le _, Nat.zero_le _⟩ (fun H locs hP hD hS => ?_)
  have hP : va_P D vwCl (stW cI ad (fx1_count S v1)) H := hP
  have hD : va_D A (stW cI ad (fx1_count S v1)) := hD
  generalize eS2 : fx1_count S v1 = S2 at hR hF hP hD
  replace hR := bnd_e hR
  replace hF := bnd_p hF
  refine lv_aload_n hx hb dX1_reject_9 rfl (lv_at hl 0 rfl) ?_
  refine lv_iload_n hx hb dX1_reject_10 rfl (lv_at hl 1 rfl) ?_
  refine lv_iconst (v := 2) hx hb dX1_reject_11 (by decide) ?_
  obtain ⟨hs19, hF⟩ := hF
  refine kcV (ci := 1) (q0 := 0) (As := [.int x1, .int 2]) (rest := []) E.1 (cx1_leaveRegister E ad S2 x1 2 hs19) hX (cwV 2 hts gX1_reject_X1_leaveRegister rfl rfl rfl hdX1_leaveRegister ⟨Nat.le_of_ble_eq_true rfl, Nat.le_of_ble_eq_true rfl⟩) hKs hK hP hD hS hA _ _ (kw_self _) (kw_self _).symm rfl rfl rfl rfl hl.1 (Nat.le_of_ble_eq_true rfl) dX1_reject_12 ⟨Nat.zero_le _, Nat.zero_le _⟩ (fun H locs hP hD hS => ?_)
  have hP : va_P D vwCl (stW cI ad (fx1_leaveRegister S2 x1 2)) H := hP
  have hD : va_D A (stW cI ad (fx1_leaveRegister S2 x1 2)) := hD
  generalize eS3 : fx1_leaveRegister S2 x1 2 = S3 at hR hF hP hD
  replace hR := bnd_e hR
  replace hF := bnd_p hF
  refine lv_aload_n hx hb dX1_reject_15 rfl (lv_at hl 0 rfl) ?_
  refine lv_iconst (v := 3) hx hb dX1_reject_16 (by decide) ?_
  obtain ⟨hs18, hF⟩ := hF
  refine kcI (ci := 1) (q0 := 0) (As := [.int 3]) (rest := []) E.1 (cx1_itemAt E ad S3 3 hs18) hX (cwV 1 hts gX1_reject_X1_itemAt rfl rfl rfl hdX1_itemAt ⟨Nat.le_of_ble_eq_true rfl, Nat.le_of_ble_eq_true rfl⟩) hKs hK hP hD hS hA _ _ (kw_self _) (kw_self _).symm rfl rfl rfl rfl hl.1 (Nat.le_of_ble_eq_true rfl) dX1_reject_17 ⟨Nat.zero_le _, Nat.zero_le _⟩ (fun H locs hP hD hS => ?_)
  generalize ev4 : fx1_itemAt S3 3 = v4 at hR hF ⊢
  replace hR := bnd_e hR
  replace hF := bnd_p hF
  refine lv_istore_n (lv' := [(2, .int v4), (0, .ref (ad 0)), (1, .int x1)]) hx hb dX1_reject_20 rfl hl (by decide) rfl (fun ls hl => ?_)
  refine lv_iload_n hx hb dX1_reject_21 rfl (lv_at hl 0 rfl) ?_
  refine lv_iconst (v := (-1)) hx hb dX1_reject_22 (by decide) ?_
  refine lv_icmp_eq (tgt := 62) hx hb dX1_reject_23 (by decide) (fun c5 => ?_) (fun c5 => ?_)
  · rw [if_pos c5] at hR hF
    refine lv_aload_n hx hb dX1_reject_62 rfl (lv_at hl 1 rfl) ?_
    refine va_get (D := D) (ci := 1) (v := .ref (ad 12)) (C := RX1) (T := TX1) (N := 16) hx hb hts hinX1 hown hK hP 0 rfl rfl 7 (by decide) q5 (fun _ h9 => h9) rfl dX1_reject_63 ?_
    refine lv_aload_n hx hb dX1_reject_66 rfl (lv_at hl 1 rfl) ?_
    refine va_get (D := D) (ci := 1) (v := .int (S3 3 0)) (C := RX1) (T := TX1) (N := 16) hx hb hts hinX1 hown hK hP 0 rfl rfl 8 (by decide) q3 (fun _ h9 => h9) rfl dX1_reject_67 ?_
    refine lv_aload_n hx hb dX1_reject_70 rfl (lv_at hl 1 rfl) ?_
    refine lv_iconst (v := 3) hx hb dX1_reject_71 (by decide) ?_
    refine kcI (ci := 1) (q0 := 0) (As := [.int 3]) (rest := [.int (S3 3 0), .ref (ad 12)]) E.1 (cx1_setting E ad S3 3) hX (cwV 1 hts gX1_reject_X1_setting rfl rfl rfl hdX1_setting ⟨Nat.le_of_ble_eq_true rfl, Nat.le_of_ble_eq_true rfl⟩) hKs hK hP hD hS hA _ _ (kw_self _) (kw_self _).symm rfl rfl rfl rfl hl.1 (Nat.le_of_ble_eq_true rfl) dX1_reject_72 ⟨Nat.zero_le _, Nat.zero_le _⟩ (fun H locs hP hD hS => ?_)
    refine lv_iadd hx hb dX1_reject_75 ?_
    have hs9 := hF
    refine kcI (ci := 2) (q0 := 0) (As := [.int ((S3 3 0) + (fx1_setting S3 3))]) (rest := []) E.1 (cx2_addRow E (ad 12) (ad 13) 1 101 101 (by decide) (stT S3 4) ((S3 3 0) + (fx1_setting S3 3)) hs9) hX (cwV 1 hts gX1_reject_X2_addRow rfl rfl rfl hdX2_addRow ⟨Nat.le_of_ble_eq_true rfl, Nat.le_of_ble_eq_true rfl⟩) hKs hK hP hD hS hA _ _ (st_tb4 cI ad S3) (st_tb4' cI ad S3 _) rfl rfl rfl rfl hl.1 (Nat.le_of_ble_eq_true rfl) dX1_reject_76 ⟨Nat.zero_le _, Nat.zero_le _⟩ (fun H locs hP hD hS => ?_)
    have hP : va_P D vwCl (stW cI ad (stP S3 4 ((fx2_addRow 1 101 101 (stT S3 4) ((S3 3 0) + (fx1_setting S3 3))).2))) H := hP
    have hD : va_D A (stW cI ad (stP S3 4 ((fx2_addRow 1 101 101 (stT S3 4) ((S3 3 0) + (fx1_setting S3 3))).2))) := hD
    generalize eu6 : fx2_addRow 1 101 101 (stT S3 4) ((S3 3 0) + (fx1_setting S3 3)) = u6 at hR hP hD ⊢
    replace hR := bnd_e hR
    refine lv_pop hx hb dX1_reject_79 rfl ?_
    refine lv_aload_n hx hb dX1_reject_80 rfl (lv_at hl 1 rfl) ?_
    refine lv_dup hx hb dX1_reject_81 rfl ?_
    refine va_get (D := D) (ci := 1) (v := .int ((stP S3 4 u6.2) 3 4)) (C := RX1) (T := TX1) (N := 16) hx hb hts hinX1 hown hK hP 0 rfl rfl 12 (by decide) q6 (fun _ h9 => h9) rfl dX1_reject_82 ?_
    refine lv_iconst (v := 1) hx hb dX1_reject_85 (by decide) ?_
    refine lv_iadd hx hb dX1_reject_86 ?_
    refine va_put (D := D) (ci := 1) (v := .int (((stP S3 4 u6.2) 3 4) + 1)) (ty := .int) (C := RX1) (T := TX1) (N := 16) hx hb hts hinX1 tyX1 tyX1_ok nmX1 hown hK hP hD hS 0 rfl rfl 12 (by decide) q6 (fun _ h9 => h9) rfl (by decide +kernel) rfl rfl (Nat.le_of_ble_eq_true rfl) dX1_reject_87 (fun H locs hP hD hS => ?_)
    have hP : va_P D vwCl (stW cI ad (sset (stP S3 4 u6.2) 3 4 (((stP S3 4 u6.2) 3 4) + 1))) H := hP
    have hD : va_D A (stW cI ad (sset (stP S3 4 u6.2) 3 4 (((stP S3 4 u6.2) 3 4) + 1))) := hD
    refine lv_aload_n hx hb dX1_reject_90 rfl (lv_at hl 1 rfl) ?_
    refine va_get (D := D) (ci := 1) (v := .int (((stP S3 4 u6.2) 3 4) + 1)) (C := RX1) (T := TX1) (N := 16) hx hb hts hinX1 hown hK hP 0 rfl rfl 12 (by decide) q6 (fun _ h9 => h9) rfl dX1_reject_91 ?_
    refine lv_aload_n hx hb dX1_reject_94 rfl (lv_at hl 1 rfl) ?_
    refine lv_iconst (v := 4) hx hb dX1_reject_95 (by decide) ?_
    refine kcI (ci := 1) (q0 := 0) (As := [.int 4]) (rest := [.int (((stP S3 4 u6.2) 3 4) + 1)]) E.1 (cx1_setting E ad (sset (stP S3 4 u6.2) 3 4 (((stP S3 4 u6.2) 3 4) + 1)) 4) hX (cwV 1 hts gX1_reject_X1_setting rfl rfl rfl hdX1_setting ⟨Nat.le_of_ble_eq_true rfl, Nat.le_of_ble_eq_true rfl⟩) hKs hK hP hD hS hA _ _ (kw_self _) (kw_self _).symm rfl rfl rfl rfl hl.1 (Nat.le_of_ble_eq_true rfl) dX1_reject_96 ⟨Nat.zero_le _, Nat.zero_le _⟩ (fun H locs hP hD hS => ?_)
    refine lv_icmp_lt (tgt := 112) hx hb dX1_reject_99 (by decide) (fun c7 => ?_) (fun c7 => ?_)
    · rw [if_pos c7] at hR
      subst hR
      exact krV hx hb hr hlk hP hD hS dX1_reject_112 rfl
    · rw [if_neg c7] at hR
      refine lv_aload_n hx hb dX1_reject_102 rfl (lv_at hl 1 rfl) ?_
      refine lv_iconst (v := 1) hx hb dX1_reject_103 (by decide) ?_
      refine kcV (ci := 1) (q0 := 0) (As := [.int 1]) (rest := []) E.1 (cx1_raise E ad (sset (stP S3 4 u6.2) 3 4 (((stP S3 4 u6.2) 3 4) + 1)) 1) hX (cwV 1 hts gX1_reject_X1_raise rfl rfl rfl hdX1_raise ⟨Nat.le_of_ble_eq_true rfl, Nat.le_of_ble_eq_true rfl⟩) hKs hK hP hD hS hA _ _ (kw_self _) (kw_self _).symm rfl rfl rfl rfl hl.1 (Nat.le_of_ble_eq_true rfl) dX1_reject_104 ⟨Nat.zero_le _, Nat.zero_le _⟩ (fun H locs hP hD hS => ?_)
      have hP : va_P D vwCl (stW cI ad (fx1_raise (sset (stP S3 4 u6.2) 3 4 (((stP S3 4 u6.2) 3 4) + 1)) 1)) H := hP
      have hD : va_D A (stW cI ad (fx1_raise (sset (stP S3 4 u6.2) 3 4 (((stP S3 4 u6.2) 3 4) + 1)) 1)) := hD
      generalize eS8 : fx1_raise (sset (stP S3 4 u6.2) 3 4 (((stP S3 4 u6.2) 3 4) + 1)) 1 = S8 at hR hP hD
      replace hR := bnd_e hR
      refine lv_aload_n hx hb dX1_reject_107 rfl (lv_at hl 1 rfl) ?_
      refine lv_iconst (v := 0) hx hb dX1_reject_108 (by decide) ?_
      refine va_put (D := D) (ci := 1) (v := .int 0) (ty := .int) (C := RX1) (T := TX1) (N := 16) hx hb hts hinX1 tyX1 tyX1_ok nmX1 hown hK hP hD hS 0 rfl rfl 12 (by decide) q6 (fun _ h9 => h9) rfl (by decide +kernel) rfl rfl (Nat.le_of_ble_eq_true rfl) dX1_reject_109 (fun H locs hP hD hS => ?_)
      have hP : va_P D vwCl (stW cI ad (sset S8 3 4 0)) H := hP
      have hD : va_D A (stW cI ad (sset S8 3 4 0)) := hD
      subst hR
      exact krV hx hb hr hlk hP hD hS dX1_reject_112 rfl
  · rw [if_neg c5] at hR hF
    refine lv_aload_n hx hb dX1_reject_26 rfl (lv_at hl 1 rfl) ?_
    refine va_get (D := D) (ci := 1) (v := .ref (ad 4)) (C := RX1) (T := TX1) (N := 16) hx hb hts hinX1 hown hK hP 0 rfl rfl 3 (by decide) q1 (fun _ h9 => h9) rfl dX1_reject_27 ?_
    refine lv_iload_n hx hb dX1_reject_30 rfl (lv_at hl 0 rfl) ?_
    obtain ⟨hs17, hF⟩ := hF
    refine kcV (ci := 2) (q0 := 0) (As := [.int v4]) (rest := []) E.1 (cx2_removeRow E (ad 4) (ad 5) 4 20 80 (by decide) (stT S3 0) v4 hs17) hX (cwV 1 hts gX1_reject_X2_removeRow rfl rfl rfl hdX2_removeRow ⟨Nat.le_of_ble_eq_true rfl, Nat.le_of_ble_eq_true rfl⟩) hKs hK hP hD hS hA _ _ (st_tb0 cI ad S3) (st_tb0' cI ad S3 _) rfl rfl rfl rfl hl.1 (Nat.le_of_ble_eq_true rfl) dX1_reject_31 ⟨Nat.zero_le _, Nat.zero_le _⟩ (fun H locs hP hD hS => ?_)
    have hP : va_P D vwCl (stW cI ad (stP S3 0 (fx2_removeRow 4 20 80 (stT S3 0) v4))) H := hP
    have hD : va_D A (stW cI ad (stP S3 0 (fx2_removeRow 4 20 80 (stT S3 0) v4))) := hD
    generalize eS10 : stP S3 0 (fx2_removeRow 4 20 80 (stT S3 0) v4) = S10 at hR hF hP hD
    replace hR := bnd_e hR
    replace hF := bnd_p hF
    refine lv_aload_n hx hb dX1_reject_34 rfl (lv_at hl 1 rfl) ?_
    refine va_get (D := D) (ci := 1) (v := .ref (ad 10)) (C := RX1) (T := TX1) (N := 16) hx hb hts hinX1 hown hK hP 0 rfl rfl 6 (by decide) q2 (fun _ h9 => h9) rfl dX1_reject_35 ?_
    refine lv_aload_n hx hb dX1_reject_38 rfl (lv_at hl 1 rfl) ?_
    refine va_get (D := D) (ci := 1) (v := .int (S10 3 0)) (C := RX1) (T := TX1) (N := 16) hx hb hts hinX1 hown hK hP 0 rfl rfl 8 (by decide) q3 (fun _ h9 => h9) rfl dX1_reject_39 ?_
    refine lv_aload_n hx hb dX1_reject_42 rfl (lv_at hl 1 rfl) ?_
    refine lv_iconst (v := 2) hx hb dX1_reject_43 (by decide) ?_
    refine kcI (ci := 1) (q0 := 0) (As := [.int 2]) (rest := [.int (S10 3 0), .ref (ad 10)]) E.1 (cx1_setting E ad S10 2) hX (cwV 1 hts gX1_reject_X1_setting rfl rfl rfl hdX1_setting ⟨Nat.le_of_ble_eq_true rfl, Nat.le_of_ble_eq_true rfl⟩) hKs hK hP hD hS hA _ _ (kw_self _) (kw_self _).symm rfl rfl rfl rfl hl.1 (Nat.le_of_ble_eq_true rfl) dX1_reject_44 ⟨Nat.zero_le _, Nat.zero_le _⟩ (fun H locs hP hD hS => ?_)
    refine lv_iadd hx hb dX1_reject_47 ?_
    obtain ⟨hs16, hF⟩ := hF
    refine kcI (ci := 2) (q0 := 0) (As := [.int ((S10 3 0) + (fx1_setting S10 2))]) (rest := []) E.1 (cx2_addRow E (ad 10) (ad 11) 1 50 50 (by decide) (stT S10 3) ((S10 3 0) + (fx1_setting S10 2)) hs16) hX (cwV 1 hts gX1_reject_X2_addRow rfl rfl rfl hdX2_addRow ⟨Nat.le_of_ble_eq_true rfl, Nat.le_of_ble_eq_true rfl⟩) hKs hK hP hD hS hA _ _ (st_tb3 cI ad S10) (st_tb3' cI ad S10 _) rfl rfl rfl rfl hl.1 (Nat.le_of_ble_eq_true rfl) dX1_reject_48 ⟨Nat.zero_le _, Nat.zero_le _⟩ (fun H locs hP hD hS => ?_)
    have hP : va_P D vwCl (stW cI ad (stP S10 3 ((fx2_addRow 1 50 50 (stT S10 3) ((S10 3 0) + (fx1_setting S10 2))).2))) H := hP
    have hD : va_D A (stW cI ad (stP S10 3 ((fx2_addRow 1 50 50 (stT S10 3) ((S10 3 0) + (fx1_setting S10 2))).2))) := hD
    generalize eu11 : fx2_addRow 1 50 50 (stT S10 3) ((S10 3 0) + (fx1_setting S10 2)) = u11 at hR hF hP hD ⊢
    replace hR := bnd_e hR
    replace hF := bnd_p hF
    refine lv_pop hx hb dX1_reject_51 rfl ?_
    refine lv_aload_n hx hb dX1_reject_52 rfl (lv_at hl 1 rfl) ?_
    refine lv_dup hx hb dX1_reject_53 rfl ?_
    refine va_get (D := D) (ci := 1) (v := .int ((stP S10 3 u11.2) 3 5)) (C := RX1) (T := TX1) (N := 16) hx hb hts hinX1 hown hK hP 0 rfl rfl 13 (by decide) q4 (fun _ h9 => h9) rfl dX1_reject_54 ?_
    refine lv_iconst (v := 1) hx hb dX1_reject_57 (by decide) ?_
    refine lv_iadd hx hb dX1_reject_58 ?_
    refine va_put (D := D) (ci := 1) (v := .int (((stP S10 3 u11.2) 3 5) + 1)) (ty := .int) (C := RX1) (T := TX1) (N := 16) hx hb hts hinX1 tyX1 tyX1_ok nmX1 hown hK hP hD hS 0 rfl rfl 13 (by decide) q4 (fun _ h9 => h9) rfl (by decide +kernel) rfl rfl (Nat.le_of_ble_eq_true rfl) dX1_reject_59 (fun H locs hP hD hS => ?_)
    have hP : va_P D vwCl (stW cI ad (sset (stP S10 3 u11.2) 3 5 (((stP S10 3 u11.2) 3 5) + 1))) H := hP
    have hD : va_D A (stW cI ad (sset (stP S10 3 u11.2) 3 5 (((stP S10 3 u11.2) 3 5) + 1))) := hD
    refine lv_aload_n hx hb dX1_reject_62 rfl (lv_at hl 1 rfl) ?_
    refine va_get (D := D) (ci := 1) (v := .ref (ad 12)) (C := RX1) (T := TX1) (N := 16) hx hb hts hinX1 hown hK hP 0 rfl rfl 7 (by decide) q5 (fun _ h9 => h9) rfl dX1_reject_63 ?_
    refine lv_aload_n hx hb dX1_reject_66 rfl (lv_at hl 1 rfl) ?_
    refine va_get (D := D) (ci := 1) (v := .int ((stP S10 3 u11.2) 3 0)) (C := RX1) (T := TX1) (N := 16) hx hb hts hinX1 hown hK hP 0 rfl rfl 8 (by decide) q3 (fun _ h9 => h9) rfl dX1_reject_67 ?_
    refine lv_aload_n hx hb dX1_reject_70 rfl (lv_at hl 1 rfl) ?_
    refine lv_iconst (v := 3) hx hb dX1_reject_71 (by decide) ?_
    refine kcI (ci := 1) (q0 := 0) (As := [.int 3]) (rest := [.int ((stP S10 3 u11.2) 3 0), .ref (ad 12)]) E.1 (cx1_setting E ad (sset (stP S10 3 u11.2) 3 5 (((stP S10 3 u11.2) 3 5) + 1)) 3) hX (cwV 1 hts gX1_reject_X1_setting rfl rfl rfl hdX1_setting ⟨Nat.le_of_ble_eq_true rfl, Nat.le_of_ble_eq_true rfl⟩) hKs hK hP hD hS hA _ _ (kw_self _) (kw_self _).symm rfl rfl rfl rfl hl.1 (Nat.le_of_ble_eq_true rfl) dX1_reject_72 ⟨Nat.zero_le _, Nat.zero_le _⟩ (fun H locs hP hD hS => ?_)
    refine lv_iadd hx hb dX1_reject_75 ?_
    have hs15 := hF
    refine kcI (ci := 2) (q0 := 0) (As := [.int (((stP S10 3 u11.2) 3 0) + (fx1_setting (sset (stP S10 3 u11.2) 3 5 (((stP S10 3 u11.2) 3 5) + 1)) 3))]) (rest := []) E.1 (cx2_addRow E (ad 12) (ad 13) 1 101 101 (by decide) (stT (sset (stP S10 3 u11.2) 3 5 (((stP S10 3 u11.2) 3 5) + 1)) 4) (((stP S10 3 u11.2) 3 0) + (fx1_setting (sset (stP S10 3 u11.2) 3 5 (((stP S10 3 u11.2) 3 5) + 1)) 3)) hs15) hX (cwV 1 hts gX1_reject_X2_addRow rfl rfl rfl hdX2_addRow ⟨Nat.le_of_ble_eq_true rfl, Nat.le_of_ble_eq_true rfl⟩) hKs hK hP hD hS hA _ _ (st_tb4 cI ad (sset (stP S10 3 u11.2) 3 5 (((stP S10 3 u11.2) 3 5) + 1))) (st_tb4' cI ad (sset (stP S10 3 u11.2) 3 5 (((stP S10 3 u11.2) 3 5) + 1)) _) rfl rfl rfl rfl hl.1 (Nat.le_of_ble_eq_true rfl) dX1_reject_76 ⟨Nat.zero_le _, Nat.zero_le _⟩ (fun H locs hP hD hS => ?_)
    have hP : va_P D vwCl (stW cI ad (stP (sset (stP S10 3 u11.2) 3 5 (((stP S10 3 u11.2) 3 5) + 1)) 4 ((fx2_addRow 1 101 101 (stT (sset (stP S10 3 u11.2) 3 5 (((stP S10 3 u11.2) 3 5) + 1)) 4) (((stP S10 3 u11.2) 3 0) + (fx1_setting (sset (stP S10 3 u11.2) 3 5 (((stP S10 3 u11.2) 3 5) + 1)) 3))).2))) H := hP
    have hD : va_D A (stW cI ad (stP (sset (stP S10 3 u11.2) 3 5 (((stP S10 3 u11.2) 3 5) + 1)) 4 ((fx2_addRow 1 101 101 (stT (sset (stP S10 3 u11.2) 3 5 (((stP S10 3 u11.2) 3 5) + 1)) 4) (((stP S10 3 u11.2) 3 0) + (fx1_setting (sset (stP S10 3 u11.2) 3 5 (((stP S10 3 u11.2) 3 5) + 1)) 3))).2))) := hD
    generalize eu12 : fx2_addRow 1 101 101 (stT (sset (stP S10 3 u11.2) 3 5 (((stP S10 3 u11.2) 3 5) + 1)) 4) (((stP S10 3 u11.2) 3 0) + (fx1_setting (sset (stP S10 3 u11.2) 3 5 (((stP S10 3 u11.2) 3 5) + 1)) 3)) = u12 at hR hP hD ⊢
    replace hR := bnd_e hR
    refine lv_pop hx hb dX1_reject_79 rfl ?_
    refine lv_aload_n hx hb dX1_reject_80 rfl (lv_at hl 1 rfl) ?_
    refine lv_dup hx hb dX1_reject_81 rfl ?_
    refine va_get (D := D) (ci := 1) (v := .int ((stP (sset (stP S10 3 u11.2) 3 5 (((stP S10 3 u11.2) 3 5) + 1)) 4 u12.2) 3 4)) (C := RX1) (T := TX1) (N := 16) hx hb hts hinX1 hown hK hP 0 rfl rfl 12 (by decide) q6 (fun _ h9 => h9) rfl dX1_reject_82 ?_
    refine lv_iconst (v := 1) hx hb dX1_reject_85 (by decide) ?_
    refine lv_iadd hx hb dX1_reject_86 ?_
    refine va_put (D := D) (ci := 1) (v := .int (((stP (sset (stP S10 3 u11.2) 3 5 (((stP S10 3 u11.2) 3 5) + 1)) 4 u12.2) 3 4) + 1)) (ty := .int) (C := RX1) (T := TX1) (N := 16) hx hb hts hinX1 tyX1 tyX1_ok nmX1 hown hK hP hD hS 0 rfl rfl 12 (by decide) q6 (fun _ h9 => h9) rfl (by decide +kernel) rfl rfl (Nat.le_of_ble_eq_true rfl) dX1_reject_87 (fun H locs hP hD hS => ?_)
    have hP : va_P D vwCl (stW cI ad (sset (stP (sset (stP S10 3 u11.2) 3 5 (((stP S10 3 u11.2) 3 5) + 1)) 4 u12.2) 3 4 (((stP (sset (stP S10 3 u11.2) 3 5 (((stP S10 3 u11.2) 3 5) + 1)) 4 u12.2) 3 4) + 1))) H := hP
    have hD : va_D A (stW cI ad (sset (stP (sset (stP S10 3 u11.2) 3 5 (((stP S10 3 u11.2) 3 5) + 1)) 4 u12.2) 3 4 (((stP (sset (stP S10 3 u11.2) 3 5 (((stP S10 3 u11.2) 3 5) + 1)) 4 u12.2) 3 4) + 1))) := hD
    refine lv_aload_n hx hb dX1_reject_90 rfl (lv_at hl 1 rfl) ?_
    refine va_get (D := D) (ci := 1) (v := .int (((stP (sset (stP S10 3 u11.2) 3 5 (((stP S10 3 u11.2) 3 5) + 1)) 4 u12.2) 3 4) + 1)) (C := RX1) (T := TX1) (N := 16) hx hb hts hinX1 hown hK hP 0 rfl rfl 12 (by decide) q6 (fun _ h9 => h9) rfl dX1_reject_91 ?_
    refine lv_aload_n hx hb dX1_reject_94 rfl (lv_at hl 1 rfl) ?_
    refine lv_iconst (v := 4) hx hb dX1_reject_95 (by decide) ?_
    refine kcI (ci := 1) (q0 := 0) (As := [.int 4]) (rest := [.int (((stP (sset (stP S10 3 u11.2) 3 5 (((stP S10 3 u11.2) 3 5) + 1)) 4 u12.2) 3 4) + 1)]) E.1 (cx1_setting E ad (sset (stP (sset (stP S10 3 u11.2) 3 5 (((stP S10 3 u11.2) 3 5) + 1)) 4 u12.2) 3 4 (((stP (sset (stP S10 3 u11.2) 3 5 (((stP S10 3 u11.2) 3 5) + 1)) 4 u12.2) 3 4) + 1)) 4) hX (cwV 1 hts gX1_reject_X1_setting rfl rfl rfl hdX1_setting ⟨Nat.le_of_ble_eq_true rfl, Nat.le_of_ble_eq_true rfl⟩) hKs hK hP hD hS hA _ _ (kw_self _) (kw_self _).symm rfl rfl rfl rfl hl.1 (Nat.le_of_ble_eq_true rfl) dX1_reject_96 ⟨Nat.zero_le _, Nat.zero_le _⟩ (fun H locs hP hD hS => ?_)
    refine lv_icmp_lt (tgt := 112) hx hb dX1_reject_99 (by decide) (fun c13 => ?_) (fun c13 => ?_)
    · rw [if_pos c13] at hR
      subst hR
      exact krV hx hb hr hlk hP hD hS dX1_reject_112 rfl
    · rw [if_neg c13] at hR
      refine lv_aload_n hx hb dX1_reject_102 rfl (lv_at hl 1 rfl) ?_
      refine lv_iconst (v := 1) hx hb dX1_reject_103 (by decide) ?_
      refine kcV (ci := 1) (q0 := 0) (As := [.int 1]) (rest := []) E.1 (cx1_raise E ad (sset (stP (sset (stP S10 3 u11.2) 3 5 (((stP S10 3 u11.2) 3 5) + 1)) 4 u12.2) 3 4 (((stP (sset (stP S10 3 u11.2) 3 5 (((stP S10 3 u11.2) 3 5) + 1)) 4 u12.2) 3 4) + 1)) 1) hX (cwV 1 hts gX1_reject_X1_raise rfl rfl rfl hdX1_raise ⟨Nat.le_of_ble_eq_true rfl, Nat.le_of_ble_eq_true rfl⟩) hKs hK hP hD hS hA _ _ (kw_self _) (kw_self _).symm rfl rfl rfl rfl hl.1 (Nat.le_of_ble_eq_true rfl) dX1_reject_104 ⟨Nat.zero_le _, Nat.zero_le _⟩ (fun H locs hP hD hS => ?_)
      have hP : va_P D vwCl (stW cI ad (fx1_raise (sset (stP (sset (stP S10 3 u11.2) 3 5 (((stP S10 3 u11.2) 3 5) + 1)) 4 u12.2) 3 4 (((stP (sset (stP S10 3 u11.2) 3 5 (((stP S10 3 u11.2) 3 5) + 1)) 4 u12.2) 3 4) + 1)) 1)) H := hP
      have hD : va_D A (stW cI ad (fx1_raise (sset (stP (sset (stP S10 3 u11.2) 3 5 (((stP S10 3 u11.2) 3 5) + 1)) 4 u12.2) 3 4 (((stP (sset (stP S10 3 u11.2) 3 5 (((stP S10 3 u11.2) 3 5) + 1)) 4 u12.2) 3 4) + 1)) 1)) := hD
      generalize eS14 : fx1_raise (sset (stP (sset (stP S10 3 u11.2) 3 5 (((stP S10 3 u11.2) 3 5) + 1)) 4 u12.2) 3 4 (((stP (sset (stP S10 3 u11.2) 3 5 (((stP S10 3 u11.2) 3 5) + 1)) 4 u12.2) 3 4) + 1)) 1 = S14 at hR hP hD
      replace hR := bnd_e hR
      refine lv_aload_n hx hb dX1_reject_107 rfl (lv_at hl 1 rfl) ?_
      refine lv_iconst (v := 0) hx hb dX1_reject_108 (by decide) ?_
      refine va_put (D := D) (ci := 1) (v := .int 0) (ty := .int) (C := RX1) (T := TX1) (N := 16) hx hb hts hinX1 tyX1 tyX1_ok nmX1 hown hK hP hD hS 0 rfl rfl 12 (by decide) q6 (fun _ h9 => h9) rfl (by decide +kernel) rfl rfl (Nat.le_of_ble_eq_true rfl) dX1_reject_109 (fun H locs hP hD hS => ?_)
      have hP : va_P D vwCl (stW cI ad (sset S14 3 4 0)) H := hP
      have hD : va_D A (stW cI ad (sset S14 3 4 0)) := hD
      subst hR
      exact krV hx hb hr hlk hP hD hS dX1_reject_112 rfl

theorem hdX1_staysInRegister : yX1_staysInRegister.cls = RX1 ∧ yX1_staysInRegister.cls ≠ "java/lang/invoke/MethodHandle" ∧ yX1_staysInRegister.cls ≠ "java/lang/invoke/VarHandle" ∧ (parseMethodDescriptor yX1_staysInRegister.desc).map (fun d => d.parameters.length) = some 1 := by decide +kernel
def fx1_staysInRegister (S : St) (x1 : Int32) : Int32 × (St) := (if (fx2_get 6 35 210 (stT S 1) x1 1) = (fx1_place S 0) then (bnd (fx1_labelerActs S x1) (fun S2 => (1, S2))) else (if (fx2_get 6 35 210 (stT S 1) x1 1) = (fx1_place S 1) then (bnd (fx1_cameraActs S x1 0) (fun S5 => (1, S5))) else (if (fx2_get 6 35 210 (stT S 1) x1 1) = (fx1_place S 2) then (if (fx2_get 6 35 210 (stT S 1) x1 2) = 3 then (bnd (fx1_cameraActs S x1 1) (fun S9 => (1, S9))) else (1, S)) else (if (fx2_get 6 35 210 (stT S 1) x1 1) = (fx1_place S 3) then (if (fx1_mayPass S x1) = 0 then (bnd (fx1_reject S x1) (fun S13 => (0, S13))) else (bnd (fx1_pass S x1) (fun S15 => (1, S15)))) else (if (fx2_get 6 35 210 (stT S 1) x1 1) ≤ ((fx1_place S 4) + (fx1_setting S 5)) then (1, S) else (if (fx2_get 6 35 210 (stT S 1) x1 5) = 1 then (bnd (fx1_leaveRegister S x1 1) (fun S18 => (0, S18))) else (bnd (fx1_leaveRegister S x1 3) (fun S20 => (0, S20)))))))))
def sx1_staysInRegister (S : St) (x1 : Int32) : Prop := (if (fx2_get 6 35 210 (stT S 1) x1 1) = (fx1_place S 0) then sx1_labelerActs S x1 else (if (fx2_get 6 35 210 (stT S 1) x1 1) = (fx1_place S 1) then sx1_cameraActs S x1 0 else (if (fx2_get 6 35 210 (stT S 1) x1 1) = (fx1_place S 2) then (if (fx2_get 6 35 210 (stT S 1) x1 2) = 3 then sx1_cameraActs S x1 1 else True) else (if (fx2_get 6 35 210 (stT S 1) x1 1) = (fx1_place S 3) then (if (fx1_mayPass S x1) = 0 then sx1_reject S x1 else True) else (if (fx2_get 6 35 210 (stT S 1) x1 1) ≤ ((fx1_place S 4) + (fx1_setting S 5)) then True else (if (fx2_get 6 35 210 (stT S 1) x1 5) = 1 then sx1_leaveRegister S x1 1 else sx1_leaveRegister S x1 3))))))
set_option maxHeartbeats 4000000 in
set_option maxRecDepth 100000 in
theorem cx1_staysInRegister {l : Launch} {D : va_G} {cI cB cS cJ : ClassId} {K : State → Prop} (E : kE D cI cB cS cJ K) (ad : Nat → Nat) (S : St) (x1 : Int32) (hF : sx1_staysInRegister S x1) : kI l D K yX1_staysInRegister wsX1_staysInRegister 3 73 [.ref (ad 0), .int x1] (stW cI ad S) (fx1_staysInRegister S x1).1 (stW cI ad ((fx1_staysInRegister S x1).2)) := by
  refine kI_of (own := RX1) (cc := cX1_staysInRegister) (maxL := 3) (tys := kty cI cB cS cJ) (fun U h => (E.2 U h).1) (by decide) rfl rfl (Nat.le_of_ble_eq_true rfl) ?_
  intro p e s m below meth c A ls hx hb hr hml hts hown hlk hKs hK hP hD hA hS hl
  have hl : lv_has ls 3 [(0, .ref (ad 0)), (1, .int x1)] := hl
  have hX : CallFix p m c cX1_staysInRegister 3 s _ wsX1_staysInRegister RX1 := ⟨hx, hb, hml, hown, hts⟩
  have hinX1 : ∀ w ∈ wsX10, w ∈ wsX1_staysInRegister := fun w h => List.mem_cons_of_mem _ (List.mem_append_left _ (List.mem_append_right _ h))
  have q1 := hts (.fieldLink RX1 30 "LabelStation$State" "records" "LLabelStation$Table;") (List.mem_of_getElem? (i := 1) rfl)
  generalize hR : fx1_staysInRegister S x1 = R
  rw [fx1_staysInRegister] at hR
  rw [sx1_staysInRegister] at hF
  refine lv_aload_n hx hb dX1_staysInRegister_0 rfl (lv_at hl 0 rfl) ?_
  refine va_get (D := D) (ci := 1) (v := .ref (ad 6)) (C := RX1) (T := TX1) (N := 16) hx hb hts hinX1 hown hK hP 0 rfl rfl 4 (by decide) q1 (fun _ h9 => h9) rfl dX1_staysInRegister_1 ?_
  refine lv_iload_n hx hb dX1_staysInRegister_4 rfl (lv_at hl 1 rfl) ?_
  refine lv_iconst (v := 1) hx hb dX1_staysInRegister_5 (by decide) ?_
  refine kcI (ci := 2) (q0 := 0) (As := [.int x1, .int 1]) (rest := []) E.1 (cx2_get E (ad 6) (ad 7) 6 35 210 (by decide) (stT S 1) x1 1) hX (cwV 2 hts gX1_staysInRegister_X2_get rfl rfl rfl hdX2_get ⟨Nat.le_of_ble_eq_true rfl, Nat.le_of_ble_eq_true rfl⟩) hKs hK hP hD hS hA _ _ (st_tb1 cI ad S) (st_tb1 cI ad S).symm rfl rfl rfl rfl hl.1 (Nat.le_of_ble_eq_true rfl) dX1_staysInRegister_6 ⟨Nat.zero_le _, Nat.zero_le _⟩ (fun H locs hP hD hS => ?_)
  refine lv_istore_n (lv' := [(2, .int (fx2_get 6 35 210 (stT S 1) x1 1)), (0, .ref (ad 0)), (1, .int x1)]) hx hb dX1_staysInRegister_9 rfl hl (by decide) rfl (fun ls hl => ?_)
  refine lv_iload_n hx hb dX1_staysInRegister_10 rfl (lv_at hl 0 rfl) ?_
  refine lv_aload_n hx hb dX1_staysInRegister_11 rfl (lv_at hl 1 rfl) ?_
  refine lv_iconst (v := 0) hx hb dX1_staysInRegister_12 (by decide) ?_
  refine kcI (ci := 1) (q0 := 0) (As := [.int 0]) (rest := [.int (fx2_get 6 35 210 (stT S 1) x1 1)]) E.1 (cx1_place E ad S 0) hX (cwV 1 hts gX1_staysInRegister_X1_place rfl rfl rfl hdX1_place ⟨Nat.le_of_ble_eq_true rfl, Nat.le_of_ble_eq_true rfl⟩) hKs hK hP hD hS hA _ _ (kw_self _) (kw_self _).symm rfl rfl rfl rfl hl.1 (Nat.le_of_ble_eq_true rfl) dX1_staysInRegister_13 ⟨Nat.zero_le _, Nat.zero_le _⟩ (fun H locs hP hD hS => ?_)
  refine lv_icmp_ne (tgt := 27) hx hb dX1_staysInRegister_16 (by decide) (fun c1 => ?_) (fun c1 => ?_)
  · rw [if_neg c1] at hR hF
    refine lv_iload_n hx hb dX1_staysInRegister_27 rfl (lv_at hl 0 rfl) ?_
    refine lv_aload_n hx hb dX1_staysInRegister_28 rfl (lv_at hl 1 rfl) ?_
    refine lv_iconst (v := 1) hx hb dX1_staysInRegister_29 (by decide) ?_
    refine kcI (ci := 1) (q0 := 0) (As := [.int 1]) (rest := [.int (fx2_get 6 35 210 (stT S 1) x1 1)]) E.1 (cx1_place E ad S 1) hX (cwV 1 hts gX1_staysInRegister_X1_place rfl rfl rfl hdX1_place ⟨Nat.le_of_ble_eq_true rfl, Nat.le_of_ble_eq_true rfl⟩) hKs hK hP hD hS hA _ _ (kw_self _) (kw_self _).symm rfl rfl rfl rfl hl.1 (Nat.le_of_ble_eq_true rfl) dX1_staysInRegister_30 ⟨Nat.zero_le _, Nat.zero_le _⟩ (fun H locs hP hD hS => ?_)
    refine lv_icmp_ne (tgt := 45) hx hb dX1_staysInRegister_33 (by decide) (fun c4 => ?_) (fun c4 => ?_)
    · rw [if_neg c4] at hR hF
      refine lv_iload_n hx hb dX1_staysInRegister_45 rfl (lv_at hl 0 rfl) ?_
      refine lv_aload_n hx hb dX1_staysInRegister_46 rfl (lv_at hl 1 rfl) ?_
      refine lv_iconst (v := 2) hx hb dX1_staysInRegister_47 (by decide) ?_
      refine kcI (ci := 1) (q0 := 0) (As := [.int 2]) (rest := [.int (fx2_get 6 35 210 (stT S 1) x1 1)]) E.1 (cx1_place E ad S 2) hX (cwV 1 hts gX1_staysInRegister_X1_place rfl rfl rfl hdX1_place ⟨Nat.le_of_ble_eq_true rfl, Nat.le_of_ble_eq_true rfl⟩) hKs hK hP hD hS hA _ _ (kw_self _) (kw_self _).symm rfl rfl rfl rfl hl.1 (Nat.le_of_ble_eq_true rfl) dX1_staysInRegister_48 ⟨Nat.zero_le _, Nat.zero_le _⟩ (fun H locs hP hD hS => ?_)
      refine lv_icmp_ne (tgt := 76) hx hb dX1_staysInRegister_51 (by decide) (fun c7 => ?_) (fun c7 => ?_)
      · rw [if_neg c7] at hR hF
        refine lv_iload_n hx hb dX1_staysInRegister_76 rfl (lv_at hl 0 rfl) ?_
        refine lv_aload_n hx hb dX1_staysInRegister_77 rfl (lv_at hl 1 rfl) ?_
        refine lv_iconst (v := 3) hx hb dX1_staysInRegister_78 (by decide) ?_
        refine kcI (ci := 1) (q0 := 0) (As := [.int 3]) (rest := [.int (fx2_get 6 35 210 (stT S 1) x1 1)]) E.1 (cx1_place E ad S 3) hX (cwV 1 hts gX1_staysInRegister_X1_place rfl rfl rfl hdX1_place ⟨Nat.le_of_ble_eq_true rfl, Nat.le_of_ble_eq_true rfl⟩) hKs hK hP hD hS hA _ _ (kw_self _) (kw_self _).symm rfl rfl rfl rfl hl.1 (Nat.le_of_ble_eq_true rfl) dX1_staysInRegister_79 ⟨Nat.zero_le _, Nat.zero_le _⟩ (fun H locs hP hD hS => ?_)
        refine lv_icmp_ne (tgt := 108) hx hb dX1_staysInRegister_82 (by decide) (fun c11 => ?_) (fun c11 => ?_)
        · rw [if_neg c11] at hR hF
          refine lv_iload_n hx hb dX1_staysInRegister_108 rfl (lv_at hl 0 rfl) ?_
          refine lv_aload_n hx hb dX1_staysInRegister_109 rfl (lv_at hl 1 rfl) ?_
          refine lv_iconst (v := 4) hx hb dX1_staysInRegister_110 (by decide) ?_
          refine kcI (ci := 1) (q0 := 0) (As := [.int 4]) (rest := [.int (fx2_get 6 35 210 (stT S 1) x1 1)]) E.1 (cx1_place E ad S 4) hX (cwV 1 hts gX1_staysInRegister_X1_place rfl rfl rfl hdX1_place ⟨Nat.le_of_ble_eq_true rfl, Nat.le_of_ble_eq_true rfl⟩) hKs hK hP hD hS hA _ _ (kw_self _) (kw_self _).symm rfl rfl rfl rfl hl.1 (Nat.le_of_ble_eq_true rfl) dX1_staysInRegister_111 ⟨Nat.zero_le _, Nat.zero_le _⟩ (fun H locs hP hD hS => ?_)
          refine lv_aload_n hx hb dX1_staysInRegister_114 rfl (lv_at hl 1 rfl) ?_
          refine lv_iconst (v := 5) hx hb dX1_staysInRegister_115 (by decide) ?_
          refine kcI (ci := 1) (q0 := 0) (As := [.int 5]) (rest := [.int (fx1_place S 4), .int (fx2_get 6 35 210 (stT S 1) x1 1)]) E.1 (cx1_setting E ad S 5) hX (cwV 1 hts gX1_staysInRegister_X1_setting rfl rfl rfl hdX1_setting ⟨Nat.le_of_ble_eq_true rfl, Nat.le_of_ble_eq_true rfl⟩) hKs hK hP hD hS hA _ _ (kw_self _) (kw_self _).symm rfl rfl rfl rfl hl.1 (Nat.le_of_ble_eq_true rfl) dX1_staysInRegister_116 ⟨Nat.zero_le _, Nat.zero_le _⟩ (fun H locs hP hD hS => ?_)
          refine lv_iadd hx hb dX1_staysInRegister_119 ?_
          refine lv_icmp_le (tgt := 148) hx hb dX1_staysInRegister_120 (by decide) (fun c16 => ?_) (fun c16 => ?_)
          · rw [if_pos c16] at hR hF
            refine lv_iconst (v := 1) hx hb dX1_staysInRegister_148 (by decide) ?_
            subst hR
            exact krZ hx hb hr hlk hP hD hS dX1_staysInRegister_149 (by decide) rfl rfl
          · rw [if_neg c16] at hR hF
            refine lv_aload_n hx hb dX1_staysInRegister_123 rfl (lv_at hl 1 rfl) ?_
            refine lv_iload_n hx hb dX1_staysInRegister_124 rfl (lv_at hl 2 rfl) ?_
            refine lv_aload_n hx hb dX1_staysInRegister_125 rfl (lv_at hl 1 rfl) ?_
            refine va_get (D := D) (ci := 1) (v := .ref (ad 6)) (C := RX1) (T := TX1) (N := 16) hx hb hts hinX1 hown hK hP 0 rfl rfl 4 (by decide) q1 (fun _ h9 => h9) rfl dX1_staysInRegister_126 ?_
            refine lv_iload_n hx hb dX1_staysInRegister_129 rfl (lv_at hl 2 rfl) ?_
            refine lv_iconst (v := 5) hx hb dX1_staysInRegister_130 (by decide) ?_
            refine kcI (ci := 2) (q0 := 0) (As := [.int x1, .int 5]) (rest := [.int x1, .ref (ad 0)]) E.1 (cx2_get E (ad 6) (ad 7) 6 35 210 (by decide) (stT S 1) x1 5) hX (cwV 2 hts gX1_staysInRegister_X2_get rfl rfl rfl hdX2_get ⟨Nat.le_of_ble_eq_true rfl, Nat.le_of_ble_eq_true rfl⟩) hKs hK hP hD hS hA _ _ (st_tb1 cI ad S) (st_tb1 cI ad S).symm rfl rfl rfl rfl hl.1 (Nat.le_of_ble_eq_true rfl) dX1_staysInRegister_131 ⟨Nat.zero_le _, Nat.zero_le _⟩ (fun H locs hP hD hS => ?_)
            refine lv_iconst (v := 1) hx hb dX1_staysInRegister_134 (by decide) ?_
            refine lv_icmp_ne (tgt := 142) hx hb dX1_staysInRegister_135 (by decide) (fun c17 => ?_) (fun c17 => ?_)
            · rw [if_neg c17] at hR hF
              refine lv_iconst (v := 3) hx hb dX1_staysInRegister_142 (by decide) ?_
              have hs21 := hF
              refine kcV (ci := 1) (q0 := 0) (As := [.int x1, .int 3]) (rest := []) E.1 (cx1_leaveRegister E ad S x1 3 hs21) hX (cwV 2 hts gX1_staysInRegister_X1_leaveRegister rfl rfl rfl hdX1_leaveRegister ⟨Nat.le_of_ble_eq_true rfl, Nat.le_of_ble_eq_true rfl⟩) hKs hK hP hD hS hA _ _ (kw_self _) (kw_self _).symm rfl rfl rfl rfl hl.1 (Nat.le_of_ble_eq_true rfl) dX1_staysInRegister_143 ⟨Nat.zero_le _, Nat.zero_le _⟩ (fun H locs hP hD hS => ?_)
              have hP : va_P D vwCl (stW cI ad (fx1_leaveRegister S x1 3)) H := hP
              have hD : va_D A (stW cI ad (fx1_leaveRegister S x1 3)) := hD
              generalize eS20 : fx1_leaveRegister S x1 3 = S20 at hR hP hD
              replace hR := bnd_e hR
              refine lv_iconst (v := 0) hx hb dX1_staysInRegister_146 (by decide) ?_
              subst hR
              exact krZ hx hb hr hlk hP hD hS dX1_staysInRegister_147 (by decide) rfl rfl
            · rw [if_pos c17] at hR hF
              refine lv_iconst (v := 1) hx hb dX1_staysInRegister_138 (by decide) ?_
              refine lv_goto (tgt := 143) hx hb dX1_staysInRegister_139 (by decide) ?_
              have hs19 := hF
              refine kcV (ci := 1) (q0 := 0) (As := [.int x1, .int 1]) (rest := []) E.1 (cx1_leaveRegister E ad S x1 1 hs19) hX (cwV 2 hts gX1_staysInRegister_X1_leaveRegister rfl rfl rfl hdX1_leaveRegister ⟨Nat.le_of_ble_eq_true rfl, Nat.le_of_ble_eq_true rfl⟩) hKs hK hP hD hS hA _ _ (kw_self _) (kw_self _).symm rfl rfl rfl rfl hl.1 (Nat.le_of_ble_eq_true rfl) dX1_staysInRegister_143 ⟨Nat.zero_le _, Nat.zero_le _⟩ (fun H locs hP hD hS => ?_)
              have hP : va_P D vwCl (stW cI ad (fx1_leaveRegister S x1 1)) H := hP
              have hD : va_D A (stW cI ad (fx1_leaveRegister S x1 1)) := hD
              generalize eS18 : fx1_leaveRegister S x1 1 = S18 at hR hP hD
              replace hR := bnd_e hR
              refine lv_iconst (v := 0) hx hb dX1_staysInRegister_146 (by decide) ?_
              subst hR
              exact krZ hx hb hr hlk hP hD hS dX1_staysInRegister_147 (by decide) rfl rfl
        · rw [if_pos c11] at hR hF
          refine lv_aload_n hx hb dX1_staysInRegister_85 rfl (lv_at hl 1 rfl) ?_
          refine lv_iload_n hx hb dX1_staysInRegister_86 rfl (lv_at hl 2 rfl) ?_
          refine kcI (ci := 1) (q0 := 0) (As := [.int x1]) (rest := []) E.1 (cx1_mayPass E ad S x1) hX (cwV 1 hts gX1_staysInRegister_X1_mayPass rfl rfl rfl hdX1_mayPass ⟨Nat.le_of_ble_eq_true rfl, Nat.le_of_ble_eq_true rfl⟩) hKs hK hP hD hS hA _ _ (kw_self _) (kw_self _).symm rfl rfl rfl rfl hl.1 (Nat.le_of_ble_eq_true rfl) dX1_staysInRegister_87 ⟨Nat.zero_le _, Nat.zero_le _⟩ (fun H locs hP hD hS => ?_)
          refine lv_if_ne (tgt := 100) hx hb dX1_staysInRegister_90 (by decide) (fun c12 => ?_) (fun c12 => ?_)
          · rw [if_neg c12] at hR hF
            refine lv_aload_n hx hb dX1_staysInRegister_100 rfl (lv_at hl 1 rfl) ?_
            refine lv_iload_n hx hb dX1_staysInRegister_101 rfl (lv_at hl 2 rfl) ?_
            refine kcV (ci := 1) (q0 := 0) (As := [.int x1]) (rest := []) E.1 (cx1_pass E ad S x1) hX (cwV 1 hts gX1_staysInRegister_X1_pass rfl rfl rfl hdX1_pass ⟨Nat.le_of_ble_eq_true rfl, Nat.le_of_ble_eq_true rfl⟩) hKs hK hP hD hS hA _ _ (kw_self _) (kw_self _).symm rfl rfl rfl rfl hl.1 (Nat.le_of_ble_eq_true rfl) dX1_staysInRegister_102 ⟨Nat.zero_le _, Nat.zero_le _⟩ (fun H locs hP hD hS => ?_)
            have hP : va_P D vwCl (stW cI ad (fx1_pass S x1)) H := hP
            have hD : va_D A (stW cI ad (fx1_pass S x1)) := hD
            generalize eS15 : fx1_pass S x1 = S15 at hR hP hD
            replace hR := bnd_e hR
            refine lv_goto (tgt := 148) hx hb dX1_staysInRegister_105 (by decide) ?_
            refine lv_iconst (v := 1) hx hb dX1_staysInRegister_148 (by decide) ?_
            subst hR
            exact krZ hx hb hr hlk hP hD hS dX1_staysInRegister_149 (by decide) rfl rfl
          · rw [if_pos c12] at hR hF
            refine lv_aload_n hx hb dX1_staysInRegister_93 rfl (lv_at hl 1 rfl) ?_
            refine lv_iload_n hx hb dX1_staysInRegister_94 rfl (lv_at hl 2 rfl) ?_
            have hs14 := hF
            refine kcV (ci := 1) (q0 := 0) (As := [.int x1]) (rest := []) E.1 (cx1_reject E ad S x1 hs14) hX (cwV 1 hts gX1_staysInRegister_X1_reject rfl rfl rfl hdX1_reject ⟨Nat.le_of_ble_eq_true rfl, Nat.le_of_ble_eq_true rfl⟩) hKs hK hP hD hS hA _ _ (kw_self _) (kw_self _).symm rfl rfl rfl rfl hl.1 (Nat.le_of_ble_eq_true rfl) dX1_staysInRegister_95 ⟨Nat.zero_le _, Nat.zero_le _⟩ (fun H locs hP hD hS => ?_)
            have hP : va_P D vwCl (stW cI ad (fx1_reject S x1)) H := hP
            have hD : va_D A (stW cI ad (fx1_reject S x1)) := hD
            generalize eS13 : fx1_reject S x1 = S13 at hR hP hD
            replace hR := bnd_e hR
            refine lv_iconst (v := 0) hx hb dX1_staysInRegister_98 (by decide) ?_
            subst hR
            exact krZ hx hb hr hlk hP hD hS dX1_staysInRegister_99 (by decide) rfl rfl
      · rw [if_pos c7] at hR hF
        refine lv_aload_n hx hb dX1_staysInRegister_54 rfl (lv_at hl 1 rfl) ?_
        refine va_get (D := D) (ci := 1) (v := .ref (ad 6)) (C := RX1) (T := TX1) (N := 16) hx hb hts hinX1 hown hK hP 0 rfl rfl 4 (by decide) q1 (fun _ h9 => h9) rfl dX1_staysInRegister_55 ?_
        refine lv_iload_n hx hb dX1_staysInRegister_58 rfl (lv_at hl 2 rfl) ?_
        refine lv_iconst (v := 2) hx hb dX1_staysInRegister_59 (by decide) ?_
        refine kcI (ci := 2) (q0 := 0) (As := [.int x1, .int 2]) (rest := []) E.1 (cx2_get E (ad 6) (ad 7) 6 35 210 (by decide) (stT S 1) x1 2) hX (cwV 2 hts gX1_staysInRegister_X2_get rfl rfl rfl hdX2_get ⟨Nat.le_of_ble_eq_true rfl, Nat.le_of_ble_eq_true rfl⟩) hKs hK hP hD hS hA _ _ (st_tb1 cI ad S) (st_tb1 cI ad S).symm rfl rfl rfl rfl hl.1 (Nat.le_of_ble_eq_true rfl) dX1_staysInRegister_60 ⟨Nat.zero_le _, Nat.zero_le _⟩ (fun H locs hP hD hS => ?_)
        refine lv_iconst (v := 3) hx hb dX1_staysInRegister_63 (by decide) ?_
        refine lv_icmp_ne (tgt := 148) hx hb dX1_staysInRegister_64 (by decide) (fun c8 => ?_) (fun c8 => ?_)
        · rw [if_neg c8] at hR hF
          refine lv_iconst (v := 1) hx hb dX1_staysInRegister_148 (by decide) ?_
          subst hR
          exact krZ hx hb hr hlk hP hD hS dX1_staysInRegister_149 (by decide) rfl rfl
        · rw [if_pos c8] at hR hF
          refine lv_aload_n hx hb dX1_staysInRegister_67 rfl (lv_at hl 1 rfl) ?_
          refine lv_iload_n hx hb dX1_staysInRegister_68 rfl (lv_at hl 2 rfl) ?_
          refine lv_iconst (v := 1) hx hb dX1_staysInRegister_69 (by decide) ?_
          have hs10 := hF
          refine kcV (ci := 1) (q0 := 0) (As := [.int x1, .int 1]) (rest := []) E.1 (cx1_cameraActs E ad S x1 1 hs10) hX (cwV 2 hts gX1_staysInRegister_X1_cameraActs rfl rfl rfl hdX1_cameraActs ⟨Nat.le_of_ble_eq_true rfl, Nat.le_of_ble_eq_true rfl⟩) hKs hK hP hD hS hA _ _ (kw_self _) (kw_self _).symm rfl rfl rfl rfl hl.1 (Nat.le_of_ble_eq_true rfl) dX1_staysInRegister_70 ⟨Nat.zero_le _, Nat.zero_le _⟩ (fun H locs hP hD hS => ?_)
          have hP : va_P D vwCl (stW cI ad (fx1_cameraActs S x1 1)) H := hP
          have hD : va_D A (stW cI ad (fx1_cameraActs S x1 1)) := hD
          generalize eS9 : fx1_cameraActs S x1 1 = S9 at hR hP hD
          replace hR := bnd_e hR
          refine lv_goto (tgt := 148) hx hb dX1_staysInRegister_73 (by decide) ?_
          refine lv_iconst (v := 1) hx hb dX1_staysInRegister_148 (by decide) ?_
          subst hR
          exact krZ hx hb hr hlk hP hD hS dX1_staysInRegister_149 (by decide) rfl rfl
    · rw [if_pos c4] at hR hF
      refine lv_aload_n hx hb dX1_staysInRegister_36 rfl (lv_at hl 1 rfl) ?_
      refine lv_iload_n hx hb dX1_staysInRegister_37 rfl (lv_at hl 2 rfl) ?_
      refine lv_iconst (v := 0) hx hb dX1_staysInRegister_38 (by decide) ?_
      have hs6 := hF
      refine kcV (ci := 1) (q0 := 0) (As := [.int x1, .int 0]) (rest := []) E.1 (cx1_cameraActs E ad S x1 0 hs6) hX (cwV 2 hts gX1_staysInRegister_X1_cameraActs rfl rfl rfl hdX1_cameraActs ⟨Nat.le_of_ble_eq_true rfl, Nat.le_of_ble_eq_true rfl⟩) hKs hK hP hD hS hA _ _ (kw_self _) (kw_self _).symm rfl rfl rfl rfl hl.1 (Nat.le_of_ble_eq_true rfl) dX1_staysInRegister_39 ⟨Nat.zero_le _, Nat.zero_le _⟩ (fun H locs hP hD hS => ?_)
      have hP : va_P D vwCl (stW cI ad (fx1_cameraActs S x1 0)) H := hP
      have hD : va_D A (stW cI ad (fx1_cameraActs S x1 0)) := hD
      generalize eS5 : fx1_cameraActs S x1 0 = S5 at hR hP hD
      replace hR := bnd_e hR
      refine lv_goto (tgt := 148) hx hb dX1_staysInRegister_42 (by decide) ?_
      refine lv_iconst (v := 1) hx hb dX1_staysInRegister_148 (by decide) ?_
      subst hR
      exact krZ hx hb hr hlk hP hD hS dX1_staysInRegister_149 (by decide) rfl rfl
  · rw [if_pos c1] at hR hF
    refine lv_aload_n hx hb dX1_staysInRegister_19 rfl (lv_at hl 1 rfl) ?_
    refine lv_iload_n hx hb dX1_staysInRegister_20 rfl (lv_at hl 2 rfl) ?_
    have hs3 := hF
    refine kcV (ci := 1) (q0 := 0) (As := [.int x1]) (rest := []) E.1 (cx1_labelerActs E ad S x1 hs3) hX (cwV 1 hts gX1_staysInRegister_X1_labelerActs rfl rfl rfl hdX1_labelerActs ⟨Nat.le_of_ble_eq_true rfl, Nat.le_of_ble_eq_true rfl⟩) hKs hK hP hD hS hA _ _ (kw_self _) (kw_self _).symm rfl rfl rfl rfl hl.1 (Nat.le_of_ble_eq_true rfl) dX1_staysInRegister_21 ⟨Nat.zero_le _, Nat.zero_le _⟩ (fun H locs hP hD hS => ?_)
    have hP : va_P D vwCl (stW cI ad (fx1_labelerActs S x1)) H := hP
    have hD : va_D A (stW cI ad (fx1_labelerActs S x1)) := hD
    generalize eS2 : fx1_labelerActs S x1 = S2 at hR hP hD
    replace hR := bnd_e hR
    refine lv_goto (tgt := 148) hx hb dX1_staysInRegister_24 (by decide) ?_
    refine lv_iconst (v := 1) hx hb dX1_staysInRegister_148 (by decide) ?_
    subst hR
    exact krZ hx hb hr hlk hP hD hS dX1_staysInRegister_149 (by decide) rfl rfl

theorem hdX1_recordForExit : yX1_recordForExit.cls = RX1 ∧ yX1_recordForExit.cls ≠ "java/lang/invoke/MethodHandle" ∧ yX1_recordForExit.cls ≠ "java/lang/invoke/VarHandle" ∧ (parseMethodDescriptor yX1_recordForExit.desc).map (fun d => d.parameters.length) = some 0 := by decide +kernel
def fx1_recordForExit_L19 (S : St) : Nat → Int32 → Int32 → Int32 → Int32 → Int32
  | 0, _, _, _, _ => 0
  | n19 + 1, y1, y2, y3, y4 => (if (fx2_count 6 35 210 (stT S 1)) ≤ y4 then y2 else (bnd (if 0 ≤ ((fx2_get 6 35 210 (stT S 1) y4 1) - y1) then ((fx2_get 6 35 210 (stT S 1) y4 1) - y1) else 0 - ((fx2_get 6 35 210 (stT S 1) y4 1) - y1)) (fun v2 => (if (fx2_get 6 35 210 (stT S 1) y4 4) = 1 then (if (fx2_get 6 35 210 (stT S 1) y4 5) = 0 then (if y3 ≤ v2 then fx1_recordForExit_L19 S n19 y1 y2 y3 (y4 + 1) else fx1_recordForExit_L19 S n19 y1 y4 v2 (y4 + 1)) else fx1_recordForExit_L19 S n19 y1 y2 y3 (y4 + 1)) else fx1_recordForExit_L19 S n19 y1 y2 y3 (y4 + 1)))))
def sx1_recordForExit_L19 (S : St) : Nat → Int32 → Int32 → Int32 → Int32 → Prop
  | 0, _, _, _, _ => False
  | n19 + 1, y1, y2, y3, y4 => (if (fx2_count 6 35 210 (stT S 1)) ≤ y4 then True else (bnd (if 0 ≤ ((fx2_get 6 35 210 (stT S 1) y4 1) - y1) then ((fx2_get 6 35 210 (stT S 1) y4 1) - y1) else 0 - ((fx2_get 6 35 210 (stT S 1) y4 1) - y1)) (fun v2 => (if (fx2_get 6 35 210 (stT S 1) y4 4) = 1 then (if (fx2_get 6 35 210 (stT S 1) y4 5) = 0 then (if y3 ≤ v2 then sx1_recordForExit_L19 S n19 y1 y2 y3 (y4 + 1) else sx1_recordForExit_L19 S n19 y1 y4 v2 (y4 + 1)) else sx1_recordForExit_L19 S n19 y1 y2 y3 (y4 + 1)) else sx1_recordForExit_L19 S n19 y1 y2 y3 (y4 + 1)))))
def fx1_recordForExit (S : St) : Int32 := fx1_recordForExit_L19 S kfu (fx1_place S 4) (-1) ((fx1_setting S 5) + 1) 0
def sx1_recordForExit (S : St) : Prop := sx1_recordForExit_L19 S kfu (fx1_place S 4) (-1) ((fx1_setting S 5) + 1) 0
set_option maxHeartbeats 4000000 in
set_option maxRecDepth 100000 in
theorem cx1_recordForExit {l : Launch} {D : va_G} {cI cB cS cJ : ClassId} {K : State → Prop} (E : kE D cI cB cS cJ K) (ad : Nat → Nat) (S : St) (hF : sx1_recordForExit S) : kI l D K yX1_recordForExit wsX1_recordForExit 1 24 [.ref (ad 0)] (stW cI ad S) (fx1_recordForExit S) (stW cI ad S) := by
  refine kI_of (own := RX1) (cc := cX1_recordForExit) (maxL := 7) (tys := kty cI cB cS cJ) (fun U h => (E.2 U h).1) (by decide) rfl rfl (Nat.le_of_ble_eq_true rfl) ?_
  intro p e s m below meth c A ls hx hb hr hml hts hown hlk hKs hK hP hD hA hS hl
  have hl : lv_has ls 7 [(0, .ref (ad 0))] := hl
  have hX : CallFix p m c cX1_recordForExit 7 s _ wsX1_recordForExit RX1 := ⟨hx, hb, hml, hown, hts⟩
  have hinX1 : ∀ w ∈ wsX10, w ∈ wsX1_recordForExit := fun w h => List.mem_cons_of_mem _ (List.mem_append_left _ (List.mem_append_right _ h))
  have q1 := hts (.fieldLink RX1 30 "LabelStation$State" "records" "LLabelStation$Table;") (List.mem_of_getElem? (i := 1) rfl)
  have q2 := hts (.methodLink RX1 190 Lib.Math.abs.name) (List.mem_of_getElem? (i := 2) rfl)
  have q3 := hts (.static Lib.Math.abs.name) (List.mem_of_getElem? (i := 3) rfl)
  have q4 := hts (.initialized "java/lang/Math") (List.mem_of_getElem? (i := 4) rfl)
  have q5 := hts (.code Lib.Math.abs.name Lib.Math.abs.code 1 (some .int)) (List.mem_of_getElem? (i := 5) rfl)
  generalize hR : fx1_recordForExit S = R
  rw [fx1_recordForExit] at hR
  rw [sx1_recordForExit] at hF
  refine lv_aload_n hx hb dX1_recordForExit_0 rfl (lv_at hl 0 rfl) ?_
  refine lv_iconst (v := 4) hx hb dX1_recordForExit_1 (by decide) ?_
  refine kcI (ci := 1) (q0 := 0) (As := [.int 4]) (rest := []) E.1 (cx1_place E ad S 4) hX (cwV 1 hts gX1_recordForExit_X1_place rfl rfl rfl hdX1_place ⟨Nat.le_of_ble_eq_true rfl, Nat.le_of_ble_eq_true rfl⟩) hKs hK hP hD hS hA _ _ (kw_self _) (kw_self _).symm rfl rfl rfl rfl hl.1 (Nat.le_of_ble_eq_true rfl) dX1_recordForExit_2 ⟨Nat.zero_le _, Nat.zero_le _⟩ (fun H locs hP hD hS => ?_)
  refine lv_istore_n (lv' := [(1, .int (fx1_place S 4)), (0, .ref (ad 0))]) hx hb dX1_recordForExit_5 rfl hl (by decide) rfl (fun ls hl => ?_)
  refine lv_iconst (v := (-1)) hx hb dX1_recordForExit_6 (by decide) ?_
  refine lv_istore_n (lv' := [(2, .int (-1)), (1, .int (fx1_place S 4)), (0, .ref (ad 0))]) hx hb dX1_recordForExit_7 rfl hl (by decide) rfl (fun ls hl => ?_)
  refine lv_aload_n hx hb dX1_recordForExit_8 rfl (lv_at hl 2 rfl) ?_
  refine lv_iconst (v := 5) hx hb dX1_recordForExit_9 (by decide) ?_
  refine kcI (ci := 1) (q0 := 0) (As := [.int 5]) (rest := []) E.1 (cx1_setting E ad S 5) hX (cwV 1 hts gX1_recordForExit_X1_setting rfl rfl rfl hdX1_setting ⟨Nat.le_of_ble_eq_true rfl, Nat.le_of_ble_eq_true rfl⟩) hKs hK hP hD hS hA _ _ (kw_self _) (kw_self _).symm rfl rfl rfl rfl hl.1 (Nat.le_of_ble_eq_true rfl) dX1_recordForExit_10 ⟨Nat.zero_le _, Nat.zero_le _⟩ (fun H locs hP hD hS => ?_)
  refine lv_iconst (v := 1) hx hb dX1_recordForExit_13 (by decide) ?_
  refine lv_iadd hx hb dX1_recordForExit_14 ?_
  refine lv_istore_n (lv' := [(3, .int ((fx1_setting S 5) + 1)), (2, .int (-1)), (1, .int (fx1_place S 4)), (0, .ref (ad 0))]) hx hb dX1_recordForExit_15 rfl hl (by decide) rfl (fun ls hl => ?_)
  refine lv_iconst (v := 0) hx hb dX1_recordForExit_16 (by decide) ?_
  refine lv_istore (lv' := [(4, .int 0), (3, .int ((fx1_setting S 5) + 1)), (2, .int (-1)), (1, .int (fx1_place S 4)), (0, .ref (ad 0))]) hx hb dX1_recordForExit_17 hl (by decide) rfl (fun ls hl => ?_)
  have loop19 : ∀ (n19 : Nat) (y1 : Int32) (y2 : Int32) (y3 : Int32) (y4 : Int32) (H : Heap) (locs : List Loc) (ls : Array Slot), fx1_recordForExit_L19 S n19 y1 y2 y3 y4 = R → sx1_recordForExit_L19 S n19 y1 y2 y3 y4 → va_P D vwCl (stW cI ad S) H → va_D A (stW cI ad S) → va_S A s.heap H locs → lv_has ls 7 [(1, .int y1), (2, .int y2), (3, .int y3), (4, .int y4), (0, .ref (ad 0))] → W p l e (kRm 1 24) s m ([.ref (ad 0)] : List Value).toArray below meth c H locs 0 0 (kQI D below R (stW cI ad S) A ([.ref (ad 0)] : List Value).toArray s) (F0 m 19 ls []) := by
    intro n19
    induction n19 with
    | zero => intro y1 y2 y3 y4 H locs ls hR hF; exact hF.elim
    | succ n19 ih19 =>
      intro y1 y2 y3 y4 H locs ls hR hF hP hD hS hl
      rw [fx1_recordForExit_L19] at hR
      rw [sx1_recordForExit_L19] at hF
      refine lv_iload hx hb dX1_recordForExit_19 (lv_at hl 3 rfl) ?_
      refine lv_aload_n hx hb dX1_recordForExit_21 rfl (lv_at hl 4 rfl) ?_
      refine va_get (D := D) (ci := 1) (v := .ref (ad 6)) (C := RX1) (T := TX1) (N := 16) hx hb hts hinX1 hown hK hP 0 rfl rfl 4 (by decide) q1 (fun _ h9 => h9) rfl dX1_recordForExit_22 ?_
      refine kcI (ci := 2) (q0 := 0) (As := []) (rest := [.int y4]) E.1 (cx2_count E (ad 6) (ad 7) 6 35 210 (by decide) (stT S 1)) hX (cwV 0 hts gX1_recordForExit_X2_count rfl rfl rfl hdX2_count ⟨Nat.le_of_ble_eq_true rfl, Nat.le_of_ble_eq_true rfl⟩) hKs hK hP hD hS hA _ _ (st_tb1 cI ad S) (st_tb1 cI ad S).symm rfl rfl rfl rfl hl.1 (Nat.le_of_ble_eq_true rfl) dX1_recordForExit_25 ⟨Nat.zero_le _, Nat.zero_le _⟩ (fun H locs hP hD hS => ?_)
      refine lv_icmp_ge (tgt := 105) hx hb dX1_recordForExit_28 (by decide) (fun c1 => ?_) (fun c1 => ?_)
      · rw [if_pos c1] at hR hF
        refine lv_iload_n hx hb dX1_recordForExit_105 rfl (lv_at hl 1 rfl) ?_
        subst hR
        exact krI hx hb hr hlk hP hD hS dX1_recordForExit_106 rfl rfl
      · rw [if_neg c1] at hR hF
        refine lv_aload_n hx hb dX1_recordForExit_31 rfl (lv_at hl 4 rfl) ?_
        refine va_get (D := D) (ci := 1) (v := .ref (ad 6)) (C := RX1) (T := TX1) (N := 16) hx hb hts hinX1 hown hK hP 0 rfl rfl 4 (by decide) q1 (fun _ h9 => h9) rfl dX1_recordForExit_32 ?_
        refine lv_iload hx hb dX1_recordForExit_35 (lv_at hl 3 rfl) ?_
        refine lv_iconst (v := 1) hx hb dX1_recordForExit_37 (by decide) ?_
        refine kcI (ci := 2) (q0 := 0) (As := [.int y4, .int 1]) (rest := []) E.1 (cx2_get E (ad 6) (ad 7) 6 35 210 (by decide) (stT S 1) y4 1) hX (cwV 2 hts gX1_recordForExit_X2_get rfl rfl rfl hdX2_get ⟨Nat.le_of_ble_eq_true rfl, Nat.le_of_ble_eq_true rfl⟩) hKs hK hP hD hS hA _ _ (st_tb1 cI ad S) (st_tb1 cI ad S).symm rfl rfl rfl rfl hl.1 (Nat.le_of_ble_eq_true rfl) dX1_recordForExit_38 ⟨Nat.zero_le _, Nat.zero_le _⟩ (fun H locs hP hD hS => ?_)
        refine lv_iload_n hx hb dX1_recordForExit_41 rfl (lv_at hl 0 rfl) ?_
        refine lv_isub hx hb dX1_recordForExit_42 ?_
        refine va_mabs hx hb (hml.trans hl.1.symm) hown q2 q3 q4 q5 (Nat.le_of_ble_eq_true rfl) (Nat.le_of_ble_eq_true rfl) (Nat.zero_le _) (Nat.zero_le _) dX1_recordForExit_43 ?_
        generalize ev2 : (if 0 ≤ ((fx2_get 6 35 210 (stT S 1) y4 1) - y1) then ((fx2_get 6 35 210 (stT S 1) y4 1) - y1) else 0 - ((fx2_get 6 35 210 (stT S 1) y4 1) - y1)) = v2 at hR hF ⊢
        replace hR := bnd_e hR
        replace hF := bnd_p hF
        refine lv_istore (lv' := [(5, .int v2), (1, .int y1), (2, .int y2), (3, .int y3), (4, .int y4), (0, .ref (ad 0))]) hx hb dX1_recordForExit_46 hl (by decide) rfl (fun ls hl => ?_)
        refine lv_aload_n hx hb dX1_recordForExit_48 rfl (lv_at hl 5 rfl) ?_
        refine va_get (D := D) (ci := 1) (v := .ref (ad 6)) (C := RX1) (T := TX1) (N := 16) hx hb hts hinX1 hown hK hP 0 rfl rfl 4 (by decide) q1 (fun _ h9 => h9) rfl dX1_recordForExit_49 ?_
        refine lv_iload hx hb dX1_recordForExit_52 (lv_at hl 4 rfl) ?_
        refine lv_iconst (v := 4) hx hb dX1_recordForExit_54 (by decide) ?_
        refine kcI (ci := 2) (q0 := 0) (As := [.int y4, .int 4]) (rest := []) E.1 (cx2_get E (ad 6) (ad 7) 6 35 210 (by decide) (stT S 1) y4 4) hX (cwV 2 hts gX1_recordForExit_X2_get rfl rfl rfl hdX2_get ⟨Nat.le_of_ble_eq_true rfl, Nat.le_of_ble_eq_true rfl⟩) hKs hK hP hD hS hA _ _ (st_tb1 cI ad S) (st_tb1 cI ad S).symm rfl rfl rfl rfl hl.1 (Nat.le_of_ble_eq_true rfl) dX1_recordForExit_55 ⟨Nat.zero_le _, Nat.zero_le _⟩ (fun H locs hP hD hS => ?_)
        refine lv_iconst (v := 1) hx hb dX1_recordForExit_58 (by decide) ?_
        refine lv_icmp_ne (tgt := 79) hx hb dX1_recordForExit_59 (by decide) (fun c3 => ?_) (fun c3 => ?_)
        · rw [if_neg c3] at hR hF
          refine lv_iconst (v := 0) hx hb dX1_recordForExit_79 (by decide) ?_
          refine lv_istore (lv' := [(6, .int 0), (5, .int v2), (1, .int y1), (2, .int y2), (3, .int y3), (4, .int y4), (0, .ref (ad 0))]) hx hb dX1_recordForExit_80 hl (by decide) rfl (fun ls hl => ?_)
          refine lv_iload hx hb dX1_recordForExit_82 (lv_at hl 0 rfl) ?_
          refine lv_if_eq (tgt := 99) hx hb dX1_recordForExit_84 (by decide) (fun _ => ?_) (fun c => absurd (by decide) c)
          refine lv_iinc (v := y4 + 1) (lv' := [(4, .int (y4 + 1)), (6, .int 0), (5, .int v2), (1, .int y1), (2, .int y2), (3, .int y3), (0, .ref (ad 0))]) hx hb dX1_recordForExit_99 hl (k := 5) rfl rfl (by decide) rfl (fun ls hl => ?_)
          refine lv_goto (tgt := 19) hx hb dX1_recordForExit_102 (by decide) ?_
          exact ih19 y1 y2 y3 (y4 + 1) _ _ ls hR hF hP hD hS (lv_sub hl [3, 4, 5, 0, 6] rfl)
        · rw [if_pos c3] at hR hF
          refine lv_aload_n hx hb dX1_recordForExit_62 rfl (lv_at hl 5 rfl) ?_
          refine va_get (D := D) (ci := 1) (v := .ref (ad 6)) (C := RX1) (T := TX1) (N := 16) hx hb hts hinX1 hown hK hP 0 rfl rfl 4 (by decide) q1 (fun _ h9 => h9) rfl dX1_recordForExit_63 ?_
          refine lv_iload hx hb dX1_recordForExit_66 (lv_at hl 4 rfl) ?_
          refine lv_iconst (v := 5) hx hb dX1_recordForExit_68 (by decide) ?_
          refine kcI (ci := 2) (q0 := 0) (As := [.int y4, .int 5]) (rest := []) E.1 (cx2_get E (ad 6) (ad 7) 6 35 210 (by decide) (stT S 1) y4 5) hX (cwV 2 hts gX1_recordForExit_X2_get rfl rfl rfl hdX2_get ⟨Nat.le_of_ble_eq_true rfl, Nat.le_of_ble_eq_true rfl⟩) hKs hK hP hD hS hA _ _ (st_tb1 cI ad S) (st_tb1 cI ad S).symm rfl rfl rfl rfl hl.1 (Nat.le_of_ble_eq_true rfl) dX1_recordForExit_69 ⟨Nat.zero_le _, Nat.zero_le _⟩ (fun H locs hP hD hS => ?_)
          refine lv_if_ne (tgt := 79) hx hb dX1_recordForExit_72 (by decide) (fun c4 => ?_) (fun c4 => ?_)
          · rw [if_neg c4] at hR hF
            refine lv_iconst (v := 0) hx hb dX1_recordForExit_79 (by decide) ?_
            refine lv_istore (lv' := [(6, .int 0), (5, .int v2), (1, .int y1), (2, .int y2), (3, .int y3), (4, .int y4), (0, .ref (ad 0))]) hx hb dX1_recordForExit_80 hl (by decide) rfl (fun ls hl => ?_)
            refine lv_iload hx hb dX1_recordForExit_82 (lv_at hl 0 rfl) ?_
            refine lv_if_eq (tgt := 99) hx hb dX1_recordForExit_84 (by decide) (fun _ => ?_) (fun c => absurd (by decide) c)
            refine lv_iinc (v := y4 + 1) (lv' := [(4, .int (y4 + 1)), (6, .int 0), (5, .int v2), (1, .int y1), (2, .int y2), (3, .int y3), (0, .ref (ad 0))]) hx hb dX1_recordForExit_99 hl (k := 5) rfl rfl (by decide) rfl (fun ls hl => ?_)
            refine lv_goto (tgt := 19) hx hb dX1_recordForExit_102 (by decide) ?_
            exact ih19 y1 y2 y3 (y4 + 1) _ _ ls hR hF hP hD hS (lv_sub hl [3, 4, 5, 0, 6] rfl)
          · rw [if_pos c4] at hR hF
            refine lv_iconst (v := 1) hx hb dX1_recordForExit_75 (by decide) ?_
            refine lv_goto (tgt := 80) hx hb dX1_recordForExit_76 (by decide) ?_
            refine lv_istore (lv' := [(6, .int 1), (5, .int v2), (1, .int y1), (2, .int y2), (3, .int y3), (4, .int y4), (0, .ref (ad 0))]) hx hb dX1_recordForExit_80 hl (by decide) rfl (fun ls hl => ?_)
            refine lv_iload hx hb dX1_recordForExit_82 (lv_at hl 0 rfl) ?_
            refine lv_if_eq (tgt := 99) hx hb dX1_recordForExit_84 (by decide) (fun c => absurd c (by decide)) (fun _ => ?_)
            refine lv_iload hx hb dX1_recordForExit_87 (lv_at hl 1 rfl) ?_
            refine lv_iload_n hx hb dX1_recordForExit_89 rfl (lv_at hl 4 rfl) ?_
            refine lv_icmp_ge (tgt := 99) hx hb dX1_recordForExit_90 (by decide) (fun c5 => ?_) (fun c5 => ?_)
            · rw [if_pos c5] at hR hF
              refine lv_iinc (v := y4 + 1) (lv' := [(4, .int (y4 + 1)), (6, .int 1), (5, .int v2), (1, .int y1), (2, .int y2), (3, .int y3), (0, .ref (ad 0))]) hx hb dX1_recordForExit_99 hl (k := 5) rfl rfl (by decide) rfl (fun ls hl => ?_)
              refine lv_goto (tgt := 19) hx hb dX1_recordForExit_102 (by decide) ?_
              exact ih19 y1 y2 y3 (y4 + 1) _ _ ls hR hF hP hD hS (lv_sub hl [3, 4, 5, 0, 6] rfl)
            · rw [if_neg c5] at hR hF
              refine lv_iload hx hb dX1_recordForExit_93 (lv_at hl 5 rfl) ?_
              refine lv_istore_n (lv' := [(2, .int y4), (6, .int 1), (5, .int v2), (1, .int y1), (3, .int y3), (4, .int y4), (0, .ref (ad 0))]) hx hb dX1_recordForExit_95 rfl hl (by decide) rfl (fun ls hl => ?_)
              refine lv_iload hx hb dX1_recordForExit_96 (lv_at hl 2 rfl) ?_
              refine lv_istore_n (lv' := [(3, .int v2), (2, .int y4), (6, .int 1), (5, .int v2), (1, .int y1), (4, .int y4), (0, .ref (ad 0))]) hx hb dX1_recordForExit_98 rfl hl (by decide) rfl (fun ls hl => ?_)
              refine lv_iinc (v := y4 + 1) (lv' := [(4, .int (y4 + 1)), (3, .int v2), (2, .int y4), (6, .int 1), (5, .int v2), (1, .int y1), (0, .ref (ad 0))]) hx hb dX1_recordForExit_99 hl (k := 5) rfl rfl (by decide) rfl (fun ls hl => ?_)
              refine lv_goto (tgt := 19) hx hb dX1_recordForExit_102 (by decide) ?_
              exact ih19 y1 y4 v2 (y4 + 1) _ _ ls hR hF hP hD hS (lv_sub hl [5, 2, 1, 0, 6] rfl)
  exact loop19 kfu (fx1_place S 4) (-1) ((fx1_setting S 5) + 1) 0 _ _ ls hR hF hP hD hS (lv_sub hl [3, 2, 1, 0, 4] rfl)

theorem hdX1_leaveBelt : yX1_leaveBelt.cls = RX1 ∧ yX1_leaveBelt.cls ≠ "java/lang/invoke/MethodHandle" ∧ yX1_leaveBelt.cls ≠ "java/lang/invoke/VarHandle" ∧ (parseMethodDescriptor yX1_leaveBelt.desc).map (fun d => d.parameters.length) = some 1 := by decide +kernel
def fx1_leaveBelt (S : St) (x1 : Int32) : St := (bnd (stP S 0 (fx2_removeRow 4 20 80 (stT S 0) x1)) (fun S1 => (bnd (fx1_count S1 8) (fun S2 => (bnd (fx1_recordForExit S2) (fun v3 => (if v3 = (-1) then (bnd (fx1_count S2 9) (fun S5 => (bnd (fx1_raise S5 4) (fun S6 => S6)))) else (bnd (stP S2 1 (fx2_put 6 35 210 (stT S2 1) v3 5 1)) (fun S7 => S7)))))))))
def sx1_leaveBelt (S : St) (x1 : Int32) : Prop := (sx2_removeRow 4 20 80 (stT S 0) x1 ∧ (bnd (stP S 0 (fx2_removeRow 4 20 80 (stT S 0) x1)) (fun S1 => (bnd (fx1_count S1 8) (fun S2 => sx1_recordForExit S2)))))
set_option maxHeartbeats 4000000 in
set_option maxRecDepth 100000 in
theorem cx1_leaveBelt {l : Launch} {D : va_G} {cI cB cS cJ : ClassId} {K : State → Prop} (E : kE D cI cB cS cJ K) (ad : Nat → Nat) (S : St) (x1 : Int32) (hF : sx1_leaveBelt S x1) : kV l D K yX1_leaveBelt wsX1_leaveBelt 2 50 [.ref (ad 0), .int x1] (stW cI ad S)  (stW cI ad (fx1_leaveBelt S x1)) := by
  refine kV_of (own := RX1) (cc := cX1_leaveBelt) (maxL := 3) (tys := kty cI cB cS cJ) (fun U h => (E.2 U h).1) (by decide) rfl rfl (Nat.le_of_ble_eq_true rfl) ?_
  intro p e s m below meth c A ls hx hb hr hml hts hown hlk hKs hK hP hD hA hS hl
  have hl : lv_has ls 3 [(0, .ref (ad 0)), (1, .int x1)] := hl
  have hX : CallFix p m c cX1_leaveBelt 3 s _ wsX1_leaveBelt RX1 := ⟨hx, hb, hml, hown, hts⟩
  have hinX1 : ∀ w ∈ wsX10, w ∈ wsX1_leaveBelt := fun w h => List.mem_cons_of_mem _ (List.mem_append_left _ (List.mem_append_right _ h))
  have q1 := hts (.fieldLink RX1 26 "LabelStation$State" "items" "LLabelStation$Table;") (List.mem_of_getElem? (i := 1) rfl)
  have q2 := hts (.fieldLink RX1 30 "LabelStation$State" "records" "LLabelStation$Table;") (List.mem_of_getElem? (i := 2) rfl)
  generalize hR : fx1_leaveBelt S x1 = R
  rw [fx1_leaveBelt] at hR
  rw [sx1_leaveBelt] at hF
  refine lv_aload_n hx hb dX1_leaveBelt_0 rfl (lv_at hl 0 rfl) ?_
  refine va_get (D := D) (ci := 1) (v := .ref (ad 4)) (C := RX1) (T := TX1) (N := 16) hx hb hts hinX1 hown hK hP 0 rfl rfl 3 (by decide) q1 (fun _ h9 => h9) rfl dX1_leaveBelt_1 ?_
  refine lv_iload_n hx hb dX1_leaveBelt_4 rfl (lv_at hl 1 rfl) ?_
  obtain ⟨hs9, hF⟩ := hF
  refine kcV (ci := 2) (q0 := 0) (As := [.int x1]) (rest := []) E.1 (cx2_removeRow E (ad 4) (ad 5) 4 20 80 (by decide) (stT S 0) x1 hs9) hX (cwV 1 hts gX1_leaveBelt_X2_removeRow rfl rfl rfl hdX2_removeRow ⟨Nat.le_of_ble_eq_true rfl, Nat.le_of_ble_eq_true rfl⟩) hKs hK hP hD hS hA _ _ (st_tb0 cI ad S) (st_tb0' cI ad S _) rfl rfl rfl rfl hl.1 (Nat.le_of_ble_eq_true rfl) dX1_leaveBelt_5 ⟨Nat.zero_le _, Nat.zero_le _⟩ (fun H locs hP hD hS => ?_)
  have hP : va_P D vwCl (stW cI ad (stP S 0 (fx2_removeRow 4 20 80 (stT S 0) x1))) H := hP
  have hD : va_D A (stW cI ad (stP S 0 (fx2_removeRow 4 20 80 (stT S 0) x1))) := hD
  generalize eS1 : stP S 0 (fx2_removeRow 4 20 80 (stT S 0) x1) = S1 at hR hF hP hD
  replace hR := bnd_e hR
  replace hF := bnd_p hF
  refine lv_aload_n hx hb dX1_leaveBelt_8 rfl (lv_at hl 0 rfl) ?_
  refine lv_bipush (v := 8) hx hb dX1_leaveBelt_9 (by decide) ?_
  refine kcV (ci := 1) (q0 := 0) (As := [.int 8]) (rest := []) E.1 (cx1_count E ad S1 8) hX (cwV 1 hts gX1_leaveBelt_X1_count rfl rfl rfl hdX1_count ⟨Nat.le_of_ble_eq_true rfl, Nat.le_of_ble_eq_true rfl⟩) hKs hK hP hD hS hA _ _ (kw_self _) (kw_self _).symm rfl rfl rfl rfl hl.1 (Nat.le_of_ble_eq_true rfl) dX1_leaveBelt_11 ⟨Nat.zero_le _, Nat.zero_le _⟩ (fun H locs hP hD hS => ?_)
  have hP : va_P D vwCl (stW cI ad (fx1_count S1 8)) H := hP
  have hD : va_D A (stW cI ad (fx1_count S1 8)) := hD
  generalize eS2 : fx1_count S1 8 = S2 at hR hF hP hD
  replace hR := bnd_e hR
  replace hF := bnd_p hF
  refine lv_aload_n hx hb dX1_leaveBelt_14 rfl (lv_at hl 0 rfl) ?_
  have hs8 := hF
  refine kcI (ci := 1) (q0 := 0) (As := []) (rest := []) E.1 (cx1_recordForExit E ad S2 hs8) hX (cwV 0 hts gX1_leaveBelt_X1_recordForExit rfl rfl rfl hdX1_recordForExit ⟨Nat.le_of_ble_eq_true rfl, Nat.le_of_ble_eq_true rfl⟩) hKs hK hP hD hS hA _ _ (kw_self _) (kw_self _).symm rfl rfl rfl rfl hl.1 (Nat.le_of_ble_eq_true rfl) dX1_leaveBelt_15 ⟨Nat.zero_le _, Nat.zero_le _⟩ (fun H locs hP hD hS => ?_)
  generalize ev3 : fx1_recordForExit S2 = v3 at hR ⊢
  replace hR := bnd_e hR
  refine lv_istore_n (lv' := [(2, .int v3), (0, .ref (ad 0)), (1, .int x1)]) hx hb dX1_leaveBelt_18 rfl hl (by decide) rfl (fun ls hl => ?_)
  refine lv_iload_n hx hb dX1_leaveBelt_19 rfl (lv_at hl 0 rfl) ?_
  refine lv_iconst (v := (-1)) hx hb dX1_leaveBelt_20 (by decide) ?_
  refine lv_icmp_ne (tgt := 38) hx hb dX1_leaveBelt_21 (by decide) (fun c4 => ?_) (fun c4 => ?_)
  · rw [if_neg c4] at hR
    refine lv_aload_n hx hb dX1_leaveBelt_38 rfl (lv_at hl 1 rfl) ?_
    refine va_get (D := D) (ci := 1) (v := .ref (ad 6)) (C := RX1) (T := TX1) (N := 16) hx hb hts hinX1 hown hK hP 0 rfl rfl 4 (by decide) q2 (fun _ h9 => h9) rfl dX1_leaveBelt_39 ?_
    refine lv_iload_n hx hb dX1_leaveBelt_42 rfl (lv_at hl 0 rfl) ?_
    refine lv_iconst (v := 5) hx hb dX1_leaveBelt_43 (by decide) ?_
    refine lv_iconst (v := 1) hx hb dX1_leaveBelt_44 (by decide) ?_
    refine kcV (ci := 2) (q0 := 0) (As := [.int v3, .int 5, .int 1]) (rest := []) E.1 (cx2_put E (ad 6) (ad 7) 6 35 210 (by decide) (stT S2 1) v3 5 1) hX (cwV 3 hts gX1_leaveBelt_X2_put rfl rfl rfl hdX2_put ⟨Nat.le_of_ble_eq_true rfl, Nat.le_of_ble_eq_true rfl⟩) hKs hK hP hD hS hA _ _ (st_tb1 cI ad S2) (st_tb1' cI ad S2 _) rfl rfl rfl rfl hl.1 (Nat.le_of_ble_eq_true rfl) dX1_leaveBelt_45 ⟨Nat.zero_le _, Nat.zero_le _⟩ (fun H locs hP hD hS => ?_)
    have hP : va_P D vwCl (stW cI ad (stP S2 1 (fx2_put 6 35 210 (stT S2 1) v3 5 1))) H := hP
    have hD : va_D A (stW cI ad (stP S2 1 (fx2_put 6 35 210 (stT S2 1) v3 5 1))) := hD
    generalize eS7 : stP S2 1 (fx2_put 6 35 210 (stT S2 1) v3 5 1) = S7 at hR hP hD
    replace hR := bnd_e hR
    subst hR
    exact krV hx hb hr hlk hP hD hS dX1_leaveBelt_48 rfl
  · rw [if_pos c4] at hR
    refine lv_aload_n hx hb dX1_leaveBelt_24 rfl (lv_at hl 1 rfl) ?_
    refine lv_bipush (v := 9) hx hb dX1_leaveBelt_25 (by decide) ?_
    refine kcV (ci := 1) (q0 := 0) (As := [.int 9]) (rest := []) E.1 (cx1_count E ad S2 9) hX (cwV 1 hts gX1_leaveBelt_X1_count rfl rfl rfl hdX1_count ⟨Nat.le_of_ble_eq_true rfl, Nat.le_of_ble_eq_true rfl⟩) hKs hK hP hD hS hA _ _ (kw_self _) (kw_self _).symm rfl rfl rfl rfl hl.1 (Nat.le_of_ble_eq_true rfl) dX1_leaveBelt_27 ⟨Nat.zero_le _, Nat.zero_le _⟩ (fun H locs hP hD hS => ?_)
    have hP : va_P D vwCl (stW cI ad (fx1_count S2 9)) H := hP
    have hD : va_D A (stW cI ad (fx1_count S2 9)) := hD
    generalize eS5 : fx1_count S2 9 = S5 at hR hP hD
    replace hR := bnd_e hR
    refine lv_aload_n hx hb dX1_leaveBelt_30 rfl (lv_at hl 1 rfl) ?_
    refine lv_iconst (v := 4) hx hb dX1_leaveBelt_31 (by decide) ?_
    refine kcV (ci := 1) (q0 := 0) (As := [.int 4]) (rest := []) E.1 (cx1_raise E ad S5 4) hX (cwV 1 hts gX1_leaveBelt_X1_raise rfl rfl rfl hdX1_raise ⟨Nat.le_of_ble_eq_true rfl, Nat.le_of_ble_eq_true rfl⟩) hKs hK hP hD hS hA _ _ (kw_self _) (kw_self _).symm rfl rfl rfl rfl hl.1 (Nat.le_of_ble_eq_true rfl) dX1_leaveBelt_32 ⟨Nat.zero_le _, Nat.zero_le _⟩ (fun H locs hP hD hS => ?_)
    have hP : va_P D vwCl (stW cI ad (fx1_raise S5 4)) H := hP
    have hD : va_D A (stW cI ad (fx1_raise S5 4)) := hD
    generalize eS6 : fx1_raise S5 4 = S6 at hR hP hD
    replace hR := bnd_e hR
    refine lv_goto (tgt := 48) hx hb dX1_leaveBelt_35 (by decide) ?_
    subst hR
    exact krV hx hb hr hlk hP hD hS dX1_leaveBelt_48 rfl

theorem hdX1_pulse : yX1_pulse.cls = RX1 ∧ yX1_pulse.cls ≠ "java/lang/invoke/MethodHandle" ∧ yX1_pulse.cls ≠ "java/lang/invoke/VarHandle" ∧ (parseMethodDescriptor yX1_pulse.desc).map (fun d => d.parameters.length) = some 0 := by decide +kernel
def fx1_pulse_L57 : Nat → Int32 → Int32 → Int32 → St → St
  | 0, _, _, _, S => S
  | n57 + 1, y1, y2, y3, S => (if y3 ≤ 0 then S else (if (fx2_get 4 20 80 (stT S 0) y2 1) = (fx1_place S 4) then (bnd (fx1_leaveBelt S y2) (fun S6 => fx1_pulse_L57 n57 y1 y2 (y3 + (-1)) S6)) else fx1_pulse_L57 n57 y1 (y2 + 1) (y3 + (-1)) S))
def sx1_pulse_L57 : Nat → Int32 → Int32 → Int32 → St → Prop
  | 0, _, _, _, _ => False
  | n57 + 1, y1, y2, y3, S => (if y3 ≤ 0 then True else (if (fx2_get 4 20 80 (stT S 0) y2 1) = (fx1_place S 4) then (sx1_leaveBelt S y2 ∧ (bnd (fx1_leaveBelt S y2) (fun S6 => sx1_pulse_L57 n57 y1 y2 (y3 + (-1)) S6))) else sx1_pulse_L57 n57 y1 (y2 + 1) (y3 + (-1)) S))
def fx1_pulse_L26 : Nat → Int32 → Int32 → St → St
  | 0, _, _, S => S
  | n26 + 1, y1, y2, S => (if y2 ≤ 0 then fx1_pulse_L57 kfu y1 0 (fx2_count 4 20 80 (stT S 0)) S else (bnd (fx1_staysInRegister S y1) (fun u8 => (if u8.1 = 0 then fx1_pulse_L26 n26 y1 (y2 + (-1)) u8.2 else fx1_pulse_L26 n26 (y1 + 1) (y2 + (-1)) u8.2))))
def sx1_pulse_L26 : Nat → Int32 → Int32 → St → Prop
  | 0, _, _, _ => False
  | n26 + 1, y1, y2, S => (if y2 ≤ 0 then sx1_pulse_L57 kfu y1 0 (fx2_count 4 20 80 (stT S 0)) S else (sx1_staysInRegister S y1 ∧ (bnd (fx1_staysInRegister S y1) (fun u8 => (if u8.1 = 0 then sx1_pulse_L26 n26 y1 (y2 + (-1)) u8.2 else sx1_pulse_L26 n26 (y1 + 1) (y2 + (-1)) u8.2)))))
def fx1_pulse (S : St) : St := (bnd (stP S 0 (fx2_increase 4 20 80 (stT S 0) 1)) (fun S1 => (bnd (stP S1 1 (fx2_increase 6 35 210 (stT S1 1) 1)) (fun S2 => fx1_pulse_L26 kfu 0 (fx2_count 6 35 210 (stT S2 1)) S2))))
def sx1_pulse (S : St) : Prop := (sx2_increase 4 20 80 (stT S 0) 1 ∧ (bnd (stP S 0 (fx2_increase 4 20 80 (stT S 0) 1)) (fun S1 => (sx2_increase 6 35 210 (stT S1 1) 1 ∧ (bnd (stP S1 1 (fx2_increase 6 35 210 (stT S1 1) 1)) (fun S2 => sx1_pulse_L26 kfu 0 (fx2_count 6 35 210 (stT S2 1)) S2))))))
set_option maxHeartbeats 4000000 in
set_option maxRecDepth 100000 in
theorem cx1_pulse {l : Launch} {D : va_G} {cI cB cS cJ : ClassId} {K : State → Prop} (E : kE D cI cB cS cJ K) (ad : Nat → Nat) (S : St) (hF : sx1_pulse S) : kV l D K yX1_pulse wsX1_pulse 4 95 [.ref (ad 0)] (stW cI ad S)  (stW cI ad (fx1_pulse S)) := by
  refine kV_of (own := RX1) (cc := cX1_pulse) (maxL := 4) (tys := kty cI cB cS cJ) (fun U h => (E.2 U h).1) (by decide) rfl rfl (Nat.le_of_ble_eq_true rfl) ?_
  intro p e s m below meth c A ls hx hb hr hml hts hown hlk hKs hK hP hD hA hS hl
  have hl : lv_has ls 4 [(0, .ref (ad 0))] := hl
  have hX : CallFix p m c cX1_pulse 4 s _ wsX1_pulse RX1 := ⟨hx, hb, hml, hown, hts⟩
  have hinX1 : ∀ w ∈ wsX10, w ∈ wsX1_pulse := fun w h => List.mem_cons_of_mem _ (List.mem_append_left _ (List.mem_append_right _ h))
  have q1 := hts (.fieldLink RX1 26 "LabelStation$State" "items" "LLabelStation$Table;") (List.mem_of_getElem? (i := 1) rfl)
  have q2 := hts (.fieldLink RX1 30 "LabelStation$State" "records" "LLabelStation$Table;") (List.mem_of_getElem? (i := 2) rfl)
  generalize hR : fx1_pulse S = R
  rw [fx1_pulse] at hR
  rw [sx1_pulse] at hF
  refine lv_aload_n hx hb dX1_pulse_0 rfl (lv_at hl 0 rfl) ?_
  refine va_get (D := D) (ci := 1) (v := .ref (ad 4)) (C := RX1) (T := TX1) (N := 16) hx hb hts hinX1 hown hK hP 0 rfl rfl 3 (by decide) q1 (fun _ h9 => h9) rfl dX1_pulse_1 ?_
  refine lv_iconst (v := 1) hx hb dX1_pulse_4 (by decide) ?_
  obtain ⟨hs12, hF⟩ := hF
  refine kcV (ci := 2) (q0 := 0) (As := [.int 1]) (rest := []) E.1 (cx2_increase E (ad 4) (ad 5) 4 20 80 (by decide) (stT S 0) 1 hs12) hX (cwV 1 hts gX1_pulse_X2_increase rfl rfl rfl hdX2_increase ⟨Nat.le_of_ble_eq_true rfl, Nat.le_of_ble_eq_true rfl⟩) hKs hK hP hD hS hA _ _ (st_tb0 cI ad S) (st_tb0' cI ad S _) rfl rfl rfl rfl hl.1 (Nat.le_of_ble_eq_true rfl) dX1_pulse_5 ⟨Nat.zero_le _, Nat.zero_le _⟩ (fun H locs hP hD hS => ?_)
  have hP : va_P D vwCl (stW cI ad (stP S 0 (fx2_increase 4 20 80 (stT S 0) 1))) H := hP
  have hD : va_D A (stW cI ad (stP S 0 (fx2_increase 4 20 80 (stT S 0) 1))) := hD
  generalize eS1 : stP S 0 (fx2_increase 4 20 80 (stT S 0) 1) = S1 at hR hF hP hD
  replace hR := bnd_e hR
  replace hF := bnd_p hF
  refine lv_aload_n hx hb dX1_pulse_8 rfl (lv_at hl 0 rfl) ?_
  refine va_get (D := D) (ci := 1) (v := .ref (ad 6)) (C := RX1) (T := TX1) (N := 16) hx hb hts hinX1 hown hK hP 0 rfl rfl 4 (by decide) q2 (fun _ h9 => h9) rfl dX1_pulse_9 ?_
  refine lv_iconst (v := 1) hx hb dX1_pulse_12 (by decide) ?_
  obtain ⟨hs11, hF⟩ := hF
  refine kcV (ci := 2) (q0 := 0) (As := [.int 1]) (rest := []) E.1 (cx2_increase E (ad 6) (ad 7) 6 35 210 (by decide) (stT S1 1) 1 hs11) hX (cwV 1 hts gX1_pulse_X2_increase rfl rfl rfl hdX2_increase ⟨Nat.le_of_ble_eq_true rfl, Nat.le_of_ble_eq_true rfl⟩) hKs hK hP hD hS hA _ _ (st_tb1 cI ad S1) (st_tb1' cI ad S1 _) rfl rfl rfl rfl hl.1 (Nat.le_of_ble_eq_true rfl) dX1_pulse_13 ⟨Nat.zero_le _, Nat.zero_le _⟩ (fun H locs hP hD hS => ?_)
  have hP : va_P D vwCl (stW cI ad (stP S1 1 (fx2_increase 6 35 210 (stT S1 1) 1))) H := hP
  have hD : va_D A (stW cI ad (stP S1 1 (fx2_increase 6 35 210 (stT S1 1) 1))) := hD
  generalize eS2 : stP S1 1 (fx2_increase 6 35 210 (stT S1 1) 1) = S2 at hR hF hP hD
  replace hR := bnd_e hR
  replace hF := bnd_p hF
  refine lv_iconst (v := 0) hx hb dX1_pulse_16 (by decide) ?_
  refine lv_istore_n (lv' := [(1, .int 0), (0, .ref (ad 0))]) hx hb dX1_pulse_17 rfl hl (by decide) rfl (fun ls hl => ?_)
  refine lv_aload_n hx hb dX1_pulse_18 rfl (lv_at hl 1 rfl) ?_
  refine va_get (D := D) (ci := 1) (v := .ref (ad 6)) (C := RX1) (T := TX1) (N := 16) hx hb hts hinX1 hown hK hP 0 rfl rfl 4 (by decide) q2 (fun _ h9 => h9) rfl dX1_pulse_19 ?_
  refine kcI (ci := 2) (q0 := 0) (As := []) (rest := []) E.1 (cx2_count E (ad 6) (ad 7) 6 35 210 (by decide) (stT S2 1)) hX (cwV 0 hts gX1_pulse_X2_count rfl rfl rfl hdX2_count ⟨Nat.le_of_ble_eq_true rfl, Nat.le_of_ble_eq_true rfl⟩) hKs hK hP hD hS hA _ _ (st_tb1 cI ad S2) (st_tb1 cI ad S2).symm rfl rfl rfl rfl hl.1 (Nat.le_of_ble_eq_true rfl) dX1_pulse_22 ⟨Nat.zero_le _, Nat.zero_le _⟩ (fun H locs hP hD hS => ?_)
  refine lv_istore_n (lv' := [(2, .int (fx2_count 6 35 210 (stT S2 1))), (1, .int 0), (0, .ref (ad 0))]) hx hb dX1_pulse_25 rfl hl (by decide) rfl (fun ls hl => ?_)
  have loop26 : ∀ (n26 : Nat) (y1 : Int32) (y2 : Int32) (S : St) (H : Heap) (locs : List Loc) (ls : Array Slot), fx1_pulse_L26 n26 y1 y2 S = R → sx1_pulse_L26 n26 y1 y2 S → va_P D vwCl (stW cI ad S) H → va_D A (stW cI ad S) → va_S A s.heap H locs → lv_has ls 4 [(1, .int y1), (2, .int y2), (0, .ref (ad 0))] → W p l e (kRm 4 95) s m ([.ref (ad 0)] : List Value).toArray below meth c H locs 0 0 (kQV D below (stW cI ad R) A ([.ref (ad 0)] : List Value).toArray s) (F0 m 26 ls []) := by
    intro n26
    induction n26 with
    | zero => intro y1 y2 S H locs ls hR hF; exact hF.elim
    | succ n26 ih26 =>
      intro y1 y2 S H locs ls hR hF hP hD hS hl
      rw [fx1_pulse_L26] at hR
      rw [sx1_pulse_L26] at hF
      refine lv_iload_n hx hb dX1_pulse_26 rfl (lv_at hl 1 rfl) ?_
      refine lv_if_le (tgt := 47) hx hb dX1_pulse_27 (by decide) (fun c3 => ?_) (fun c3 => ?_)
      · rw [if_pos c3] at hR hF
        refine lv_iconst (v := 0) hx hb dX1_pulse_47 (by decide) ?_
        refine lv_istore_n (lv' := [(2, .int 0), (1, .int y1), (0, .ref (ad 0))]) hx hb dX1_pulse_48 rfl hl (by decide) rfl (fun ls hl => ?_)
        refine lv_aload_n hx hb dX1_pulse_49 rfl (lv_at hl 2 rfl) ?_
        refine va_get (D := D) (ci := 1) (v := .ref (ad 4)) (C := RX1) (T := TX1) (N := 16) hx hb hts hinX1 hown hK hP 0 rfl rfl 3 (by decide) q1 (fun _ h9 => h9) rfl dX1_pulse_50 ?_
        refine kcI (ci := 2) (q0 := 0) (As := []) (rest := []) E.1 (cx2_count E (ad 4) (ad 5) 4 20 80 (by decide) (stT S 0)) hX (cwV 0 hts gX1_pulse_X2_count rfl rfl rfl hdX2_count ⟨Nat.le_of_ble_eq_true rfl, Nat.le_of_ble_eq_true rfl⟩) hKs hK hP hD hS hA _ _ (st_tb0 cI ad S) (st_tb0 cI ad S).symm rfl rfl rfl rfl hl.1 (Nat.le_of_ble_eq_true rfl) dX1_pulse_53 ⟨Nat.zero_le _, Nat.zero_le _⟩ (fun H locs hP hD hS => ?_)
        refine lv_istore_n (lv' := [(3, .int (fx2_count 4 20 80 (stT S 0))), (2, .int 0), (1, .int y1), (0, .ref (ad 0))]) hx hb dX1_pulse_56 rfl hl (by decide) rfl (fun ls hl => ?_)
        have loop57 : ∀ (n57 : Nat) (y1 : Int32) (y2 : Int32) (y3 : Int32) (S : St) (H : Heap) (locs : List Loc) (ls : Array Slot), fx1_pulse_L57 n57 y1 y2 y3 S = R → sx1_pulse_L57 n57 y1 y2 y3 S → va_P D vwCl (stW cI ad S) H → va_D A (stW cI ad S) → va_S A s.heap H locs → lv_has ls 4 [(1, .int y1), (2, .int y2), (3, .int y3), (0, .ref (ad 0))] → W p l e (kRm 4 95) s m ([.ref (ad 0)] : List Value).toArray below meth c H locs 0 0 (kQV D below (stW cI ad R) A ([.ref (ad 0)] : List Value).toArray s) (F0 m 57 ls []) := by
          intro n57
          induction n57 with
          | zero => intro y1 y2 y3 S H locs ls hR hF; exact hF.elim
          | succ n57 ih57 =>
            intro y1 y2 y3 S H locs ls hR hF hP hD hS hl
            rw [fx1_pulse_L57] at hR
            rw [sx1_pulse_L57] at hF
            refine lv_iload_n hx hb dX1_pulse_57 rfl (lv_at hl 2 rfl) ?_
            refine lv_if_le (tgt := 95) hx hb dX1_pulse_58 (by decide) (fun c4 => ?_) (fun c4 => ?_)
            · rw [if_pos c4] at hR hF
              subst hR
              exact krV hx hb hr hlk hP hD hS dX1_pulse_95 rfl
            · rw [if_neg c4] at hR hF
              refine lv_aload_n hx hb dX1_pulse_61 rfl (lv_at hl 3 rfl) ?_
              refine va_get (D := D) (ci := 1) (v := .ref (ad 4)) (C := RX1) (T := TX1) (N := 16) hx hb hts hinX1 hown hK hP 0 rfl rfl 3 (by decide) q1 (fun _ h9 => h9) rfl dX1_pulse_62 ?_
              refine lv_iload_n hx hb dX1_pulse_65 rfl (lv_at hl 1 rfl) ?_
              refine lv_iconst (v := 1) hx hb dX1_pulse_66 (by decide) ?_
              refine kcI (ci := 2) (q0 := 0) (As := [.int y2, .int 1]) (rest := []) E.1 (cx2_get E (ad 4) (ad 5) 4 20 80 (by decide) (stT S 0) y2 1) hX (cwV 2 hts gX1_pulse_X2_get rfl rfl rfl hdX2_get ⟨Nat.le_of_ble_eq_true rfl, Nat.le_of_ble_eq_true rfl⟩) hKs hK hP hD hS hA _ _ (st_tb0 cI ad S) (st_tb0 cI ad S).symm rfl rfl rfl rfl hl.1 (Nat.le_of_ble_eq_true rfl) dX1_pulse_67 ⟨Nat.zero_le _, Nat.zero_le _⟩ (fun H locs hP hD hS => ?_)
              refine lv_aload_n hx hb dX1_pulse_70 rfl (lv_at hl 3 rfl) ?_
              refine lv_iconst (v := 4) hx hb dX1_pulse_71 (by decide) ?_
              refine kcI (ci := 1) (q0 := 0) (As := [.int 4]) (rest := [.int (fx2_get 4 20 80 (stT S 0) y2 1)]) E.1 (cx1_place E ad S 4) hX (cwV 1 hts gX1_pulse_X1_place rfl rfl rfl hdX1_place ⟨Nat.le_of_ble_eq_true rfl, Nat.le_of_ble_eq_true rfl⟩) hKs hK hP hD hS hA _ _ (kw_self _) (kw_self _).symm rfl rfl rfl rfl hl.1 (Nat.le_of_ble_eq_true rfl) dX1_pulse_72 ⟨Nat.zero_le _, Nat.zero_le _⟩ (fun H locs hP hD hS => ?_)
              refine lv_icmp_ne (tgt := 86) hx hb dX1_pulse_75 (by decide) (fun c5 => ?_) (fun c5 => ?_)
              · rw [if_neg c5] at hR hF
                refine lv_iinc (v := y2 + 1) (lv' := [(2, .int (y2 + 1)), (1, .int y1), (3, .int y3), (0, .ref (ad 0))]) hx hb dX1_pulse_86 hl (k := 1) rfl rfl (by decide) rfl (fun ls hl => ?_)
                refine lv_iinc (v := y3 + (-1)) (lv' := [(3, .int (y3 + (-1))), (2, .int (y2 + 1)), (1, .int y1), (0, .ref (ad 0))]) hx hb dX1_pulse_89 hl (k := 2) rfl rfl (by decide) rfl (fun ls hl => ?_)
                refine lv_goto (tgt := 57) hx hb dX1_pulse_92 (by decide) ?_
                exact ih57 y1 (y2 + 1) (y3 + (-1)) S _ _ ls hR hF hP hD hS (lv_sub hl [2, 1, 0, 3] rfl)
              · rw [if_pos c5] at hR hF
                refine lv_aload_n hx hb dX1_pulse_78 rfl (lv_at hl 3 rfl) ?_
                refine lv_iload_n hx hb dX1_pulse_79 rfl (lv_at hl 1 rfl) ?_
                obtain ⟨hs7, hF⟩ := hF
                refine kcV (ci := 1) (q0 := 0) (As := [.int y2]) (rest := []) E.1 (cx1_leaveBelt E ad S y2 hs7) hX (cwV 1 hts gX1_pulse_X1_leaveBelt rfl rfl rfl hdX1_leaveBelt ⟨Nat.le_of_ble_eq_true rfl, Nat.le_of_ble_eq_true rfl⟩) hKs hK hP hD hS hA _ _ (kw_self _) (kw_self _).symm rfl rfl rfl rfl hl.1 (Nat.le_of_ble_eq_true rfl) dX1_pulse_80 ⟨Nat.zero_le _, Nat.zero_le _⟩ (fun H locs hP hD hS => ?_)
                have hP : va_P D vwCl (stW cI ad (fx1_leaveBelt S y2)) H := hP
                have hD : va_D A (stW cI ad (fx1_leaveBelt S y2)) := hD
                generalize eS6 : fx1_leaveBelt S y2 = S6 at hR hF hP hD
                replace hR := bnd_e hR
                replace hF := bnd_p hF
                refine lv_goto (tgt := 89) hx hb dX1_pulse_83 (by decide) ?_
                refine lv_iinc (v := y3 + (-1)) (lv' := [(3, .int (y3 + (-1))), (1, .int y1), (2, .int y2), (0, .ref (ad 0))]) hx hb dX1_pulse_89 hl (k := 2) rfl rfl (by decide) rfl (fun ls hl => ?_)
                refine lv_goto (tgt := 57) hx hb dX1_pulse_92 (by decide) ?_
                exact ih57 y1 y2 (y3 + (-1)) S6 _ _ ls hR hF hP hD hS (lv_sub hl [1, 2, 0, 3] rfl)
        exact loop57 kfu y1 0 (fx2_count 4 20 80 (stT S 0)) S _ _ ls hR hF hP hD hS (lv_sub hl [2, 1, 0, 3] rfl)
      · rw [if_neg c3] at hR hF
        refine lv_aload_n hx hb dX1_pulse_30 rfl (lv_at hl 2 rfl) ?_
        refine lv_iload_n hx hb dX1_pulse_31 rfl (lv_at hl 0 rfl) ?_
        obtain ⟨hs10, hF⟩ := hF
        refine kcI (ci := 1) (q0 := 0) (As := [.int y1]) (rest := []) E.1 (cx1_staysInRegister E ad S y1 hs10) hX (cwV 1 hts gX1_pulse_X1_staysInRegister rfl rfl rfl hdX1_staysInRegister ⟨Nat.le_of_ble_eq_true rfl, Nat.le_of_ble_eq_true rfl⟩) hKs hK hP hD hS hA _ _ (kw_self _) (kw_self _).symm rfl rfl rfl rfl hl.1 (Nat.le_of_ble_eq_true rfl) dX1_pulse_32 ⟨Nat.zero_le _, Nat.zero_le _⟩ (fun H locs hP hD hS => ?_)
        have hP : va_P D vwCl (stW cI ad ((fx1_staysInRegister S y1).2)) H := hP
        have hD : va_D A (stW cI ad ((fx1_staysInRegister S y1).2)) := hD
        generalize eu8 : fx1_staysInRegister S y1 = u8 at hR hF hP hD ⊢
        replace hR := bnd_e hR
        replace hF := bnd_p hF
        refine lv_if_eq (tgt := 41) hx hb dX1_pulse_35 (by decide) (fun c9 => ?_) (fun c9 => ?_)
        · rw [if_pos c9] at hR hF
          refine lv_iinc (v := y2 + (-1)) (lv' := [(2, .int (y2 + (-1))), (1, .int y1), (0, .ref (ad 0))]) hx hb dX1_pulse_41 hl (k := 1) rfl rfl (by decide) rfl (fun ls hl => ?_)
          refine lv_goto (tgt := 26) hx hb dX1_pulse_44 (by decide) ?_
          exact ih26 y1 (y2 + (-1)) u8.2 _ _ ls hR hF hP hD hS (lv_sub hl [1, 0, 2] rfl)
        · rw [if_neg c9] at hR hF
          refine lv_iinc (v := y1 + 1) (lv' := [(1, .int (y1 + 1)), (2, .int y2), (0, .ref (ad 0))]) hx hb dX1_pulse_38 hl (k := 0) rfl rfl (by decide) rfl (fun ls hl => ?_)
          refine lv_iinc (v := y2 + (-1)) (lv' := [(2, .int (y2 + (-1))), (1, .int (y1 + 1)), (0, .ref (ad 0))]) hx hb dX1_pulse_41 hl (k := 1) rfl rfl (by decide) rfl (fun ls hl => ?_)
          refine lv_goto (tgt := 26) hx hb dX1_pulse_44 (by decide) ?_
          exact ih26 (y1 + 1) (y2 + (-1)) u8.2 _ _ ls hR hF hP hD hS (lv_sub hl [1, 0, 2] rfl)
  exact loop26 kfu 0 (fx2_count 6 35 210 (stT S2 1)) S2 _ _ ls hR hF hP hD hS (lv_sub hl [1, 0, 2] rfl)

theorem hdX1_passTick : yX1_passTick.cls = RX1 ∧ yX1_passTick.cls ≠ "java/lang/invoke/MethodHandle" ∧ yX1_passTick.cls ≠ "java/lang/invoke/VarHandle" ∧ (parseMethodDescriptor yX1_passTick.desc).map (fun d => d.parameters.length) = some 0 := by decide +kernel
def fx1_passTick_L30 : Nat → Int32 → Int32 → St → St
  | 0, _, _, S => S
  | n30 + 1, y1, y2, S => (if y1 ≤ y2 then S else (if (S 3 1) = 0 then S else (bnd (fx1_pulse S) (fun S6 => fx1_passTick_L30 n30 y1 (y2 + 1) S6))))
def sx1_passTick_L30 : Nat → Int32 → Int32 → St → Prop
  | 0, _, _, _ => False
  | n30 + 1, y1, y2, S => (if y1 ≤ y2 then True else (if (S 3 1) = 0 then True else (sx1_pulse S ∧ (bnd (fx1_pulse S) (fun S6 => sx1_passTick_L30 n30 y1 (y2 + 1) S6)))))
def fx1_passTick (S : St) : St := (bnd (fx1_deliverVerdicts (sset S 3 0 ((S 3 0) + 1))) (fun S1 => (bnd (fx1_fillBin S1) (fun S2 => (bnd (fx1_closeOverdueExpectations S2) (fun S3 => fx1_passTick_L30 kfu (fx1_setting S3 0) 0 S3))))))
def sx1_passTick (S : St) : Prop := (sx1_deliverVerdicts (sset S 3 0 ((S 3 0) + 1)) ∧ (bnd (fx1_deliverVerdicts (sset S 3 0 ((S 3 0) + 1))) (fun S1 => (sx1_fillBin S1 ∧ (bnd (fx1_fillBin S1) (fun S2 => (sx1_closeOverdueExpectations S2 ∧ (bnd (fx1_closeOverdueExpectations S2) (fun S3 => sx1_passTick_L30 kfu (fx1_setting S3 0) 0 S3)))))))))
set_option maxHeartbeats 4000000 in
set_option maxRecDepth 100000 in
theorem cx1_passTick {l : Launch} {D : va_G} {cI cB cS cJ : ClassId} {K : State → Prop} (E : kE D cI cB cS cJ K) (ad : Nat → Nat) (S : St) (hF : sx1_passTick S) : kV l D K yX1_passTick wsX1_passTick 5 118 [.ref (ad 0)] (stW cI ad S)  (stW cI ad (fx1_passTick S)) := by
  refine kV_of (own := RX1) (cc := cX1_passTick) (maxL := 3) (tys := kty cI cB cS cJ) (fun U h => (E.2 U h).1) (by decide) rfl rfl (Nat.le_of_ble_eq_true rfl) ?_
  intro p e s m below meth c A ls hx hb hr hml hts hown hlk hKs hK hP hD hA hS hl
  have hl : lv_has ls 3 [(0, .ref (ad 0))] := hl
  have hX : CallFix p m c cX1_passTick 3 s _ wsX1_passTick RX1 := ⟨hx, hb, hml, hown, hts⟩
  have hinX1 : ∀ w ∈ wsX10, w ∈ wsX1_passTick := fun w h => List.mem_cons_of_mem _ (List.mem_append_left _ (List.mem_append_right _ h))
  have q1 := hts (.fieldLink RX1 42 "LabelStation$State" "tick" "I") (List.mem_of_getElem? (i := 1) rfl)
  have q2 := hts (.fieldLink RX1 46 "LabelStation$State" "running" "Z") (List.mem_of_getElem? (i := 2) rfl)
  generalize hR : fx1_passTick S = R
  rw [fx1_passTick] at hR
  rw [sx1_passTick] at hF
  refine lv_aload_n hx hb dX1_passTick_0 rfl (lv_at hl 0 rfl) ?_
  refine lv_dup hx hb dX1_passTick_1 rfl ?_
  refine va_get (D := D) (ci := 1) (v := .int (S 3 0)) (C := RX1) (T := TX1) (N := 16) hx hb hts hinX1 hown hK hP 0 rfl rfl 8 (by decide) q1 (fun _ h9 => h9) rfl dX1_passTick_2 ?_
  refine lv_iconst (v := 1) hx hb dX1_passTick_5 (by decide) ?_
  refine lv_iadd hx hb dX1_passTick_6 ?_
  refine va_put (D := D) (ci := 1) (v := .int ((S 3 0) + 1)) (ty := .int) (C := RX1) (T := TX1) (N := 16) hx hb hts hinX1 tyX1 tyX1_ok nmX1 hown hK hP hD hS 0 rfl rfl 8 (by decide) q1 (fun _ h9 => h9) rfl (by decide +kernel) rfl rfl (Nat.le_of_ble_eq_true rfl) dX1_passTick_7 (fun H locs hP hD hS => ?_)
  have hP : va_P D vwCl (stW cI ad (sset S 3 0 ((S 3 0) + 1))) H := hP
  have hD : va_D A (stW cI ad (sset S 3 0 ((S 3 0) + 1))) := hD
  refine lv_aload_n hx hb dX1_passTick_10 rfl (lv_at hl 0 rfl) ?_
  obtain ⟨hs10, hF⟩ := hF
  refine kcV (ci := 1) (q0 := 0) (As := []) (rest := []) E.1 (cx1_deliverVerdicts E ad (sset S 3 0 ((S 3 0) + 1)) hs10) hX (cwV 0 hts gX1_passTick_X1_deliverVerdicts rfl rfl rfl hdX1_deliverVerdicts ⟨Nat.le_of_ble_eq_true rfl, Nat.le_of_ble_eq_true rfl⟩) hKs hK hP hD hS hA _ _ (kw_self _) (kw_self _).symm rfl rfl rfl rfl hl.1 (Nat.le_of_ble_eq_true rfl) dX1_passTick_11 ⟨Nat.zero_le _, Nat.zero_le _⟩ (fun H locs hP hD hS => ?_)
  have hP : va_P D vwCl (stW cI ad (fx1_deliverVerdicts (sset S 3 0 ((S 3 0) + 1)))) H := hP
  have hD : va_D A (stW cI ad (fx1_deliverVerdicts (sset S 3 0 ((S 3 0) + 1)))) := hD
  generalize eS1 : fx1_deliverVerdicts (sset S 3 0 ((S 3 0) + 1)) = S1 at hR hF hP hD
  replace hR := bnd_e hR
  replace hF := bnd_p hF
  refine lv_aload_n hx hb dX1_passTick_14 rfl (lv_at hl 0 rfl) ?_
  obtain ⟨hs9, hF⟩ := hF
  refine kcV (ci := 1) (q0 := 0) (As := []) (rest := []) E.1 (cx1_fillBin E ad S1 hs9) hX (cwV 0 hts gX1_passTick_X1_fillBin rfl rfl rfl hdX1_fillBin ⟨Nat.le_of_ble_eq_true rfl, Nat.le_of_ble_eq_true rfl⟩) hKs hK hP hD hS hA _ _ (kw_self _) (kw_self _).symm rfl rfl rfl rfl hl.1 (Nat.le_of_ble_eq_true rfl) dX1_passTick_15 ⟨Nat.zero_le _, Nat.zero_le _⟩ (fun H locs hP hD hS => ?_)
  have hP : va_P D vwCl (stW cI ad (fx1_fillBin S1)) H := hP
  have hD : va_D A (stW cI ad (fx1_fillBin S1)) := hD
  generalize eS2 : fx1_fillBin S1 = S2 at hR hF hP hD
  replace hR := bnd_e hR
  replace hF := bnd_p hF
  refine lv_aload_n hx hb dX1_passTick_18 rfl (lv_at hl 0 rfl) ?_
  obtain ⟨hs8, hF⟩ := hF
  refine kcV (ci := 1) (q0 := 0) (As := []) (rest := []) E.1 (cx1_closeOverdueExpectations E ad S2 hs8) hX (cwV 0 hts gX1_passTick_X1_closeOverdueExpectations rfl rfl rfl hdX1_closeOverdueExpectations ⟨Nat.le_of_ble_eq_true rfl, Nat.le_of_ble_eq_true rfl⟩) hKs hK hP hD hS hA _ _ (kw_self _) (kw_self _).symm rfl rfl rfl rfl hl.1 (Nat.le_of_ble_eq_true rfl) dX1_passTick_19 ⟨Nat.zero_le _, Nat.zero_le _⟩ (fun H locs hP hD hS => ?_)
  have hP : va_P D vwCl (stW cI ad (fx1_closeOverdueExpectations S2)) H := hP
  have hD : va_D A (stW cI ad (fx1_closeOverdueExpectations S2)) := hD
  generalize eS3 : fx1_closeOverdueExpectations S2 = S3 at hR hF hP hD
  replace hR := bnd_e hR
  replace hF := bnd_p hF
  refine lv_aload_n hx hb dX1_passTick_22 rfl (lv_at hl 0 rfl) ?_
  refine lv_iconst (v := 0) hx hb dX1_passTick_23 (by decide) ?_
  refine kcI (ci := 1) (q0 := 0) (As := [.int 0]) (rest := []) E.1 (cx1_setting E ad S3 0) hX (cwV 1 hts gX1_passTick_X1_setting rfl rfl rfl hdX1_setting ⟨Nat.le_of_ble_eq_true rfl, Nat.le_of_ble_eq_true rfl⟩) hKs hK hP hD hS hA _ _ (kw_self _) (kw_self _).symm rfl rfl rfl rfl hl.1 (Nat.le_of_ble_eq_true rfl) dX1_passTick_24 ⟨Nat.zero_le _, Nat.zero_le _⟩ (fun H locs hP hD hS => ?_)
  refine lv_istore_n (lv' := [(1, .int (fx1_setting S3 0)), (0, .ref (ad 0))]) hx hb dX1_passTick_27 rfl hl (by decide) rfl (fun ls hl => ?_)
  refine lv_iconst (v := 0) hx hb dX1_passTick_28 (by decide) ?_
  refine lv_istore_n (lv' := [(2, .int 0), (1, .int (fx1_setting S3 0)), (0, .ref (ad 0))]) hx hb dX1_passTick_29 rfl hl (by decide) rfl (fun ls hl => ?_)
  have loop30 : ∀ (n30 : Nat) (y1 : Int32) (y2 : Int32) (S : St) (H : Heap) (locs : List Loc) (ls : Array Slot), fx1_passTick_L30 n30 y1 y2 S = R → sx1_passTick_L30 n30 y1 y2 S → va_P D vwCl (stW cI ad S) H → va_D A (stW cI ad S) → va_S A s.heap H locs → lv_has ls 3 [(1, .int y1), (2, .int y2), (0, .ref (ad 0))] → W p l e (kRm 5 118) s m ([.ref (ad 0)] : List Value).toArray below meth c H locs 0 0 (kQV D below (stW cI ad R) A ([.ref (ad 0)] : List Value).toArray s) (F0 m 30 ls []) := by
    intro n30
    induction n30 with
    | zero => intro y1 y2 S H locs ls hR hF; exact hF.elim
    | succ n30 ih30 =>
      intro y1 y2 S H locs ls hR hF hP hD hS hl
      rw [fx1_passTick_L30] at hR
      rw [sx1_passTick_L30] at hF
      refine lv_iload_n hx hb dX1_passTick_30 rfl (lv_at hl 1 rfl) ?_
      refine lv_iload_n hx hb dX1_passTick_31 rfl (lv_at hl 0 rfl) ?_
      refine lv_icmp_ge (tgt := 52) hx hb dX1_passTick_32 (by decide) (fun c4 => ?_) (fun c4 => ?_)
      · rw [if_pos c4] at hR hF
        subst hR
        exact krV hx hb hr hlk hP hD hS dX1_passTick_52 rfl
      · rw [if_neg c4] at hR hF
        refine lv_aload_n hx hb dX1_passTick_35 rfl (lv_at hl 2 rfl) ?_
        refine va_get (D := D) (ci := 1) (v := .int (S 3 1)) (C := RX1) (T := TX1) (N := 16) hx hb hts hinX1 hown hK hP 0 rfl rfl 9 (by decide) q2 (fun _ h9 => h9) rfl dX1_passTick_36 ?_
        refine lv_if_eq (tgt := 52) hx hb dX1_passTick_39 (by decide) (fun c5 => ?_) (fun c5 => ?_)
        · rw [if_pos c5] at hR hF
          subst hR
          exact krV hx hb hr hlk hP hD hS dX1_passTick_52 rfl
        · rw [if_neg c5] at hR hF
          refine lv_aload_n hx hb dX1_passTick_42 rfl (lv_at hl 2 rfl) ?_
          obtain ⟨hs7, hF⟩ := hF
          refine kcV (ci := 1) (q0 := 0) (As := []) (rest := []) E.1 (cx1_pulse E ad S hs7) hX (cwV 0 hts gX1_passTick_X1_pulse rfl rfl rfl hdX1_pulse ⟨Nat.le_of_ble_eq_true rfl, Nat.le_of_ble_eq_true rfl⟩) hKs hK hP hD hS hA _ _ (kw_self _) (kw_self _).symm rfl rfl rfl rfl hl.1 (Nat.le_of_ble_eq_true rfl) dX1_passTick_43 ⟨Nat.zero_le _, Nat.zero_le _⟩ (fun H locs hP hD hS => ?_)
          have hP : va_P D vwCl (stW cI ad (fx1_pulse S)) H := hP
          have hD : va_D A (stW cI ad (fx1_pulse S)) := hD
          generalize eS6 : fx1_pulse S = S6 at hR hF hP hD
          replace hR := bnd_e hR
          replace hF := bnd_p hF
          refine lv_iinc (v := y2 + 1) (lv' := [(2, .int (y2 + 1)), (1, .int y1), (0, .ref (ad 0))]) hx hb dX1_passTick_46 hl (k := 1) rfl rfl (by decide) rfl (fun ls hl => ?_)
          refine lv_goto (tgt := 30) hx hb dX1_passTick_49 (by decide) ?_
          exact ih30 y1 (y2 + 1) S6 _ _ ls hR hF hP hD hS (lv_sub hl [1, 0, 2] rfl)
  exact loop30 kfu (fx1_setting S3 0) 0 S3 _ _ ls hR hF hP hD hS (lv_sub hl [1, 0, 2] rfl)

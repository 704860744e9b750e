/-! the history -/
/-- the history's own two cells; its five slots; all, with the present state ahead -/
def hjW (cS : ClassId) (aL : Nat → Nat → Nat) (o v : Int32) : va_W := [(aL 7 1, .inr (0, [.ref (aL 7 2), .int o, .int v])), (aL 7 2, .inl (cS, 5, .inr (.inr (.inr (.inr (fun j => some (aL (2 + j) 0)))))))]
def slW (cI : ClassId) (aL : Nat → Nat → Nat) (L : Nat → St) : va_W := stW cI (aL 2) (L 2) ++ (stW cI (aL 3) (L 3) ++ (stW cI (aL 4) (L 4) ++ (stW cI (aL 5) (L 5) ++ stW cI (aL 6) (L 6))))
def hsW (cI cS : ClassId) (aL : Nat → Nat → Nat) (L : Nat → St) : va_W := stW cI (aL 0) (L 0) ++ (hjW cS aL (L 7 1 0) (L 7 1 1) ++ slW cI aL L)
def hput (L : Nat → St) (O : Int32 × Int32) : Nat → St := va_up L 7 (sset (sset (L 7) 1 0 O.1) 1 1 O.2)
theorem hs_hj (cI cS : ClassId) (aL : Nat → Nat → Nat) (L : Nat → St) : hsW cI cS aL L = stW cI (aL 0) (L 0) ++ (hjW cS aL (L 7 1 0) (L 7 1 1) ++ slW cI aL L) := rfl
theorem hs_hj' (cI cS : ClassId) (aL : Nat → Nat → Nat) (L : Nat → St) (O : Int32 × Int32) : stW cI (aL 0) (L 0) ++ (hjW cS aL O.1 O.2 ++ slW cI aL L) = hsW cI cS aL (hput L O) := rfl
theorem hs_sl (cI cS : ClassId) (aL : Nat → Nat → Nat) (L : Nat → St) {j : Nat} (hj : j < 5) : ∃ m r : va_W, hsW cI cS aL L = [] ++ (stW cI (aL 0) (L 0) ++ (m ++ (stW cI (aL (2 + j)) (L (2 + j)) ++ r))) ∧ (∀ T : St, [] ++ (stW cI (aL 0) (L 0) ++ (m ++ (stW cI (aL (2 + j)) T ++ r))) = hsW cI cS aL (va_up L (2 + j) T)) ∧ (∀ S1 : St, [] ++ (stW cI (aL 0) S1 ++ (m ++ (stW cI (aL (2 + j)) (L (2 + j)) ++ r))) = hsW cI cS aL (va_up L 0 S1)) := by
  have u : ∀ (a b : Nat) (T : St), a ≠ b → va_up L b T a = L a := fun a b T h => by simp only [va_up, if_neg h]
  have v : ∀ (a : Nat) (T : St), va_up L a T a = T := fun a T => by simp only [va_up, if_pos]
  rcases (show j = 0 ∨ j = 1 ∨ j = 2 ∨ j = 3 ∨ j = 4 by omega) with rfl | rfl | rfl | rfl | rfl
  · exact ⟨hjW cS aL (L 7 1 0) (L 7 1 1), stW cI (aL 3) (L 3) ++ (stW cI (aL 4) (L 4) ++ (stW cI (aL 5) (L 5) ++ stW cI (aL 6) (L 6))), rfl, fun T => rfl, fun S1 => rfl⟩
  · refine ⟨hjW cS aL (L 7 1 0) (L 7 1 1) ++ stW cI (aL 2) (L 2), stW cI (aL 4) (L 4) ++ (stW cI (aL 5) (L 5) ++ stW cI (aL 6) (L 6)), ?_, fun T => ?_, fun S1 => ?_⟩
    · simp only [hsW, slW, List.append_assoc, List.nil_append]
    · rw [List.append_assoc]; rfl
    · rw [List.append_assoc]; rfl
  · refine ⟨hjW cS aL (L 7 1 0) (L 7 1 1) ++ (stW cI (aL 2) (L 2) ++ stW cI (aL 3) (L 3)), stW cI (aL 5) (L 5) ++ stW cI (aL 6) (L 6), ?_, fun T => ?_, fun S1 => ?_⟩
    · simp only [hsW, slW, List.append_assoc, List.nil_append]
    · rw [List.append_assoc, List.append_assoc]; rfl
    · rw [List.append_assoc, List.append_assoc]; rfl
  · refine ⟨hjW cS aL (L 7 1 0) (L 7 1 1) ++ (stW cI (aL 2) (L 2) ++ (stW cI (aL 3) (L 3) ++ stW cI (aL 4) (L 4))), stW cI (aL 6) (L 6), ?_, fun T => ?_, fun S1 => ?_⟩
    · simp only [hsW, slW, List.append_assoc, List.nil_append]
    · rw [List.append_assoc, List.append_assoc, List.append_assoc]; rfl
    · rw [List.append_assoc, List.append_assoc, List.append_assoc]; rfl
  · refine ⟨hjW cS aL (L 7 1 0) (L 7 1 1) ++ (stW cI (aL 2) (L 2) ++ (stW cI (aL 3) (L 3) ++ (stW cI (aL 4) (L 4) ++ stW cI (aL 5) (L 5)))), [], ?_, fun T => ?_, fun S1 => ?_⟩
    · simp only [hsW, slW, List.append_assoc, List.nil_append, List.append_nil]
    · rw [List.append_assoc, List.append_assoc, List.append_assoc, List.append_assoc, List.append_nil]; rfl
    · rw [List.append_assoc, List.append_assoc, List.append_assoc, List.append_assoc, List.append_nil]; rfl

theorem hdX0_count : yX0_count.cls = RX0 ∧ yX0_count.cls ≠ "java/lang/invoke/MethodHandle" ∧ yX0_count.cls ≠ "java/lang/invoke/VarHandle" ∧ (parseMethodDescriptor yX0_count.desc).map (fun d => d.parameters.length) = some 0 := by decide +kernel
def fx0_count (O : Int32 × Int32) : Int32 := O.2
set_option maxHeartbeats 4000000 in
set_option maxRecDepth 100000 in
theorem cx0_count {l : Launch} {D : va_G} {cI cB cS cJ : ClassId} {K : State → Prop} (E : kE D cI cB cS cJ K) (aL : Nat → Nat → Nat) (O : Int32 × Int32) : kI l D K yX0_count wsX0_count 0 0 [.ref (aL 7 1)] (hjW cS aL O.1 O.2) (fx0_count O) (hjW cS aL O.1 O.2) := by
  refine kI_of (own := RX0) (cc := cX0_count) (maxL := 1) (tys := kty cI cB cS cJ) (fun U h => (E.2 U h).1) (by decide) rfl rfl (Nat.le_of_ble_eq_true rfl) ?_
  intro p e s m below meth c A ls hx hb hr hml hts hown hlk hKs hK hP hD hA hS hl
  have hl : lv_has ls 1 [(0, .ref (aL 7 1))] := hl
  have hX : CallFix p m c cX0_count 1 s _ wsX0_count RX0 := ⟨hx, hb, hml, hown, hts⟩
  have hinX0 : ∀ w ∈ wsX00, w ∈ wsX0_count := fun w h => List.mem_cons_of_mem _ (List.mem_append_right _ h)
  have q1 := hts (.fieldLink RX0 21 "LabelStation$History" "saved" "I") (List.mem_of_getElem? (i := 1) rfl)
  generalize hR : fx0_count O = R
  rw [fx0_count] at hR
  refine lv_aload_n hx hb dX0_count_0 rfl (lv_at hl 0 rfl) ?_
  refine va_get (D := D) (ci := 0) (v := .int O.2) (C := RX0) (T := TX0) (N := 3) hx hb hts hinX0 hown hK hP 0 rfl rfl 2 (by decide) q1 (fun _ h9 => h9) rfl dX0_count_1 ?_
  subst hR
  exact krI hx hb hr hlk hP hD hS dX0_count_4 rfl rfl

theorem hdX0_keepPrepared : yX0_keepPrepared.cls = RX0 ∧ yX0_keepPrepared.cls ≠ "java/lang/invoke/MethodHandle" ∧ yX0_keepPrepared.cls ≠ "java/lang/invoke/VarHandle" ∧ (parseMethodDescriptor yX0_keepPrepared.desc).map (fun d => d.parameters.length) = some 0 := by decide +kernel
def fx0_keepPrepared (O : Int32 × Int32) : Int32 × Int32 := (if 4 ≤ O.2 then ((O.1 + 1) - (O.1 + 1) / 5 * 5, O.2) else (O.1, O.2 + 1))
set_option maxHeartbeats 4000000 in
set_option maxRecDepth 100000 in
theorem cx0_keepPrepared {l : Launch} {D : va_G} {cI cB cS cJ : ClassId} {K : State → Prop} (E : kE D cI cB cS cJ K) (aL : Nat → Nat → Nat) (O : Int32 × Int32) : kV l D K yX0_keepPrepared wsX0_keepPrepared 0 0 [.ref (aL 7 1)] (hjW cS aL O.1 O.2)  (hjW cS aL ((fx0_keepPrepared O).1) ((fx0_keepPrepared O).2)) := by
  refine kV_of (own := RX0) (cc := cX0_keepPrepared) (maxL := 1) (tys := kty cI cB cS cJ) (fun U h => (E.2 U h).1) (by decide) rfl rfl (Nat.le_of_ble_eq_true rfl) ?_
  intro p e s m below meth c A ls hx hb hr hml hts hown hlk hKs hK hP hD hA hS hl
  have hl : lv_has ls 1 [(0, .ref (aL 7 1))] := hl
  have hX : CallFix p m c cX0_keepPrepared 1 s _ wsX0_keepPrepared RX0 := ⟨hx, hb, hml, hown, hts⟩
  have hinX0 : ∀ w ∈ wsX00, w ∈ wsX0_keepPrepared := fun w h => List.mem_cons_of_mem _ (List.mem_append_right _ h)
  have q1 := hts (.fieldLink RX0 21 "LabelStation$History" "saved" "I") (List.mem_of_getElem? (i := 1) rfl)
  have q2 := hts (.fieldLink RX0 17 "LabelStation$History" "oldest" "I") (List.mem_of_getElem? (i := 2) rfl)
  generalize hR : fx0_keepPrepared O = R
  rw [fx0_keepPrepared] at hR
  refine lv_aload_n hx hb dX0_keepPrepared_0 rfl (lv_at hl 0 rfl) ?_
  refine va_get (D := D) (ci := 0) (v := .int O.2) (C := RX0) (T := TX0) (N := 3) hx hb hts hinX0 hown hK hP 0 rfl rfl 2 (by decide) q1 (fun _ h9 => h9) rfl dX0_keepPrepared_1 ?_
  refine lv_iconst (v := 4) hx hb dX0_keepPrepared_4 (by decide) ?_
  refine lv_icmp_ge (tgt := 21) hx hb dX0_keepPrepared_5 (by decide) (fun c1 => ?_) (fun c1 => ?_)
  · rw [if_pos c1] at hR
    refine lv_aload_n hx hb dX0_keepPrepared_21 rfl (lv_at hl 0 rfl) ?_
    refine lv_aload_n hx hb dX0_keepPrepared_22 rfl (lv_at hl 0 rfl) ?_
    refine va_get (D := D) (ci := 0) (v := .int O.1) (C := RX0) (T := TX0) (N := 3) hx hb hts hinX0 hown hK hP 0 rfl rfl 1 (by decide) q2 (fun _ h9 => h9) rfl dX0_keepPrepared_23 ?_
    refine lv_iconst (v := 1) hx hb dX0_keepPrepared_26 (by decide) ?_
    refine lv_iadd hx hb dX0_keepPrepared_27 ?_
    refine lv_iconst (v := 5) hx hb dX0_keepPrepared_28 (by decide) ?_
    refine lv_irem hx hb dX0_keepPrepared_29 (by decide) ?_
    refine va_put (D := D) (ci := 0) (v := .int ((O.1 + 1) - (O.1 + 1) / 5 * 5)) (ty := .int) (C := RX0) (T := TX0) (N := 3) hx hb hts hinX0 tyX0 tyX0_ok nmX0 hown hK hP hD hS 0 rfl rfl 1 (by decide) q2 (fun _ h9 => h9) rfl (by decide +kernel) rfl rfl (Nat.le_of_ble_eq_true rfl) dX0_keepPrepared_30 (fun H locs hP hD hS => ?_)
    have hP : va_P D vwCl (hjW cS aL ((O.1 + 1) - (O.1 + 1) / 5 * 5) O.2) H := hP
    have hD : va_D A (hjW cS aL ((O.1 + 1) - (O.1 + 1) / 5 * 5) O.2) := hD
    subst hR
    exact krV hx hb hr hlk hP hD hS dX0_keepPrepared_33 rfl
  · rw [if_neg c1] at hR
    refine lv_aload_n hx hb dX0_keepPrepared_8 rfl (lv_at hl 0 rfl) ?_
    refine lv_dup hx hb dX0_keepPrepared_9 rfl ?_
    refine va_get (D := D) (ci := 0) (v := .int O.2) (C := RX0) (T := TX0) (N := 3) hx hb hts hinX0 hown hK hP 0 rfl rfl 2 (by decide) q1 (fun _ h9 => h9) rfl dX0_keepPrepared_10 ?_
    refine lv_iconst (v := 1) hx hb dX0_keepPrepared_13 (by decide) ?_
    refine lv_iadd hx hb dX0_keepPrepared_14 ?_
    refine va_put (D := D) (ci := 0) (v := .int (O.2 + 1)) (ty := .int) (C := RX0) (T := TX0) (N := 3) hx hb hts hinX0 tyX0 tyX0_ok nmX0 hown hK hP hD hS 0 rfl rfl 2 (by decide) q1 (fun _ h9 => h9) rfl (by decide +kernel) rfl rfl (Nat.le_of_ble_eq_true rfl) dX0_keepPrepared_15 (fun H locs hP hD hS => ?_)
    have hP : va_P D vwCl (hjW cS aL O.1 (O.2 + 1)) H := hP
    have hD : va_D A (hjW cS aL O.1 (O.2 + 1)) := hD
    refine lv_goto (tgt := 33) hx hb dX0_keepPrepared_18 (by decide) ?_
    subst hR
    exact krV hx hb hr hlk hP hD hS dX0_keepPrepared_33 rfl

theorem hdX0_slotAt : yX0_slotAt.cls = RX0 ∧ yX0_slotAt.cls ≠ "java/lang/invoke/MethodHandle" ∧ yX0_slotAt.cls ≠ "java/lang/invoke/VarHandle" ∧ (parseMethodDescriptor yX0_slotAt.desc).map (fun d => d.parameters.length) = some 1 := by decide +kernel
def fx0_slotAt (aL : Nat → Nat → Nat) (O : Int32 × Int32) (x1 : Int32) : Option Nat := (if ((O.1 + x1) - (O.1 + x1) / 5 * 5) < 0 then none else (if (nI 5) ≤ ((O.1 + x1) - (O.1 + x1) / 5 * 5) then none else some (aL (2 + ((O.1 + x1) - (O.1 + x1) / 5 * 5).toNatClampNeg) 0)))
set_option maxHeartbeats 4000000 in
set_option maxRecDepth 100000 in
theorem cx0_slotAt {l : Launch} {D : va_G} {cI cB cS cJ : ClassId} {K : State → Prop} (E : kE D cI cB cS cJ K) (aL : Nat → Nat → Nat) (O : Int32 × Int32) (x1 : Int32) : kR l D K yX0_slotAt wsX0_slotAt 0 0 [.ref (aL 7 1), .int x1] (hjW cS aL O.1 O.2) (fx0_slotAt aL O x1) (hjW cS aL O.1 O.2) := by
  refine kR_of (own := RX0) (cc := cX0_slotAt) (maxL := 3) (tys := kty cI cB cS cJ) (fun U h => (E.2 U h).1) (by decide) rfl rfl (Nat.le_of_ble_eq_true rfl) ?_
  intro p e s m below meth c A ls hx hb hr hml hts hown hlk hKs hK hP hD hA hS hl
  have hl : lv_has ls 3 [(0, .ref (aL 7 1)), (1, .int x1)] := hl
  have hX : CallFix p m c cX0_slotAt 3 s _ wsX0_slotAt RX0 := ⟨hx, hb, hml, hown, hts⟩
  have hinX0 : ∀ w ∈ wsX00, w ∈ wsX0_slotAt := fun w h => List.mem_cons_of_mem _ (List.mem_append_right _ h)
  have q1 := hts (.fieldLink RX0 17 "LabelStation$History" "oldest" "I") (List.mem_of_getElem? (i := 1) rfl)
  have q2 := hts (.fieldLink RX0 11 "LabelStation$History" "slots" "[LLabelStation$State;") (List.mem_of_getElem? (i := 2) rfl)
  generalize hR : fx0_slotAt aL O x1 = R
  rw [fx0_slotAt] at hR
  refine lv_aload_n hx hb dX0_slotAt_0 rfl (lv_at hl 0 rfl) ?_
  refine va_get (D := D) (ci := 0) (v := .int O.1) (C := RX0) (T := TX0) (N := 3) hx hb hts hinX0 hown hK hP 0 rfl rfl 1 (by decide) q1 (fun _ h9 => h9) rfl dX0_slotAt_1 ?_
  refine lv_iload_n hx hb dX0_slotAt_4 rfl (lv_at hl 1 rfl) ?_
  refine lv_iadd hx hb dX0_slotAt_5 ?_
  refine lv_iconst (v := 5) hx hb dX0_slotAt_6 (by decide) ?_
  refine lv_irem hx hb dX0_slotAt_7 (by decide) ?_
  refine lv_istore_n (lv' := [(2, .int ((O.1 + x1) - (O.1 + x1) / 5 * 5)), (0, .ref (aL 7 1)), (1, .int x1)]) hx hb dX0_slotAt_8 rfl hl (by decide) rfl (fun ls hl => ?_)
  refine lv_iload_n hx hb dX0_slotAt_9 rfl (lv_at hl 0 rfl) ?_
  refine lv_if_lt (tgt := 31) hx hb dX0_slotAt_10 (by decide) (fun c1 => ?_) (fun c1 => ?_)
  · rw [if_pos c1] at hR
    refine lv_null hx hb dX0_slotAt_31 ?_
    subst hR
    exact krR (v := none) hx hb hr (Or.inl ⟨_, rfl⟩) hlk hP hD hS dX0_slotAt_32 rfl rfl
  · rw [if_neg c1] at hR
    refine lv_iload_n hx hb dX0_slotAt_13 rfl (lv_at hl 0 rfl) ?_
    refine lv_aload_n hx hb dX0_slotAt_14 rfl (lv_at hl 1 rfl) ?_
    refine va_get (D := D) (ci := 0) (v := .ref (aL 7 2)) (C := RX0) (T := TX0) (N := 3) hx hb hts hinX0 hown hK hP 0 rfl rfl 0 (by decide) q2 (fun _ h9 => h9) rfl dX0_slotAt_15 ?_
    refine va_alen (v := nI 5) hx hb hK hP 1 2 rfl rfl rfl dX0_slotAt_18 ?_
    refine lv_icmp_ge (tgt := 31) hx hb dX0_slotAt_19 (by decide) (fun c2 => ?_) (fun c2 => ?_)
    · rw [if_pos c2] at hR
      refine lv_null hx hb dX0_slotAt_31 ?_
      subst hR
      exact krR (v := none) hx hb hr (Or.inl ⟨_, rfl⟩) hlk hP hD hS dX0_slotAt_32 rfl rfl
    · rw [if_neg c2] at hR
      refine lv_aload_n hx hb dX0_slotAt_22 rfl (lv_at hl 1 rfl) ?_
      refine va_get (D := D) (ci := 0) (v := .ref (aL 7 2)) (C := RX0) (T := TX0) (N := 3) hx hb hts hinX0 hown hK hP 0 rfl rfl 0 (by decide) q2 (fun _ h9 => h9) rfl dX0_slotAt_23 ?_
      refine lv_iload_n hx hb dX0_slotAt_26 rfl (lv_at hl 0 rfl) ?_
      refine va_aldq hx hb hK hP 1 2 rfl rfl (kin_of c1 c2 (by decide)) dX0_slotAt_27 ?_
      refine lv_goto (tgt := 32) hx hb dX0_slotAt_28 (by decide) ?_
      subst hR
      exact krR (v := some (aL (2 + ((O.1 + x1) - (O.1 + x1) / 5 * 5).toNatClampNeg) 0)) hx hb hr (Or.inl ⟨_, rfl⟩) hlk hP hD hS dX0_slotAt_32 rfl rfl

theorem hdX0_prepare : yX0_prepare.cls = RX0 ∧ yX0_prepare.cls ≠ "java/lang/invoke/MethodHandle" ∧ yX0_prepare.cls ≠ "java/lang/invoke/VarHandle" ∧ (parseMethodDescriptor yX0_prepare.desc).map (fun d => d.parameters.length) = some 1 := by decide +kernel
set_option maxHeartbeats 4000000 in
set_option maxRecDepth 100000 in
theorem cx0_prepare {l : Launch} {D : va_G} {cI cB cS cJ : ClassId} {K : State → Prop} (E : kE D cI cB cS cJ K) (aL : Nat → Nat → Nat) (L : Nat → St) (j : Nat) (hj : j < 5) (hs : fx0_slotAt aL (L 7 1 0, L 7 1 1) (L 7 1 1) = some (aL (2 + j) 0)) (hF : sx1_copyFrom (L 0) (L (2 + j))) : kV l D K yX0_prepare wsX0_prepare 3 122 [.ref (aL 7 1), .ref (aL 0 0)] (hsW cI cS aL L) (hsW cI cS aL (va_up L (2 + j) (fx1_copyFrom (L 0) (L (2 + j))))) := by
  refine kV_of (own := RX0) (cc := cX0_prepare) (maxL := 3) (tys := kty cI cB cS cJ) (fun U h => (E.2 U h).1) (by decide) rfl rfl (Nat.le_of_ble_eq_true rfl) ?_
  intro p e s m below meth c A ls hx hb hr hml hts hown hlk hKs hK hP hD hA hS hl
  have hl : lv_has ls 3 [(0, .ref (aL 7 1)), (1, .ref (aL 0 0))] := hl
  have hX : CallFix p m c cX0_prepare 3 s _ wsX0_prepare RX0 := ⟨hx, hb, hml, hown, hts⟩
  have hinX0 : ∀ w ∈ wsX00, w ∈ wsX0_prepare := fun w h => List.mem_cons_of_mem _ (List.mem_append_left _ (List.mem_append_left _ (List.mem_append_right _ h)))
  have qsv := hts (.fieldLink RX0 21 "LabelStation$History" "saved" "I") (List.mem_of_getElem? (i := 1) rfl)
  refine lv_aload_n hx hb dX0_prepare_0 rfl (lv_at hl 0 rfl) ?_
  refine lv_aload_n hx hb dX0_prepare_1 rfl (lv_at hl 0 rfl) ?_
  refine va_get (D := D) (ci := 0) (v := .int (L 7 1 1)) (C := RX0) (T := TX0) (N := 3) hx hb hts hinX0 hown hK hP 14 rfl rfl 2 (by decide) qsv (fun _ h9 => h9) rfl dX0_prepare_2 ?_
  refine kcR (ci := 0) (q0 := 0) (As := [.int (L 7 1 1)]) (rest := []) E.1 (cx0_slotAt E aL (L 7 1 0, L 7 1 1) (L 7 1 1)) hX (cwV 1 hts gX0_prepare_X0_slotAt rfl rfl rfl hdX0_slotAt ⟨Nat.le_of_ble_eq_true rfl, Nat.le_of_ble_eq_true rfl⟩) hKs hK hP hD hS hA _ _ (hs_hj cI cS aL L) (hs_hj cI cS aL L).symm rfl rfl rfl rfl hl.1 (Nat.le_of_ble_eq_true rfl) dX0_prepare_5 ⟨Nat.zero_le _, Nat.zero_le _⟩ (fun H locs hP hD hS => ?_)
  rw [hs]
  refine kw_top (v := .ref (aL (2 + j) 0)) rfl ?_
  refine lv_astore_n (lv' := [(2, .ref (aL (2 + j) 0)), (0, .ref (aL 7 1)), (1, .ref (aL 0 0))]) hx hb dX0_prepare_8 rfl hl (by decide) rfl (fun ls hl => ?_)
  refine lv_aload_n hx hb dX0_prepare_9 rfl (lv_at hl 0 rfl) ?_
  refine lv_ifnull hx hb dX0_prepare_10 ?_
  obtain ⟨m1, r1, e1, e2, e3⟩ := hs_sl cI cS aL L hj
  refine lv_aload_n hx hb dX0_prepare_13 rfl (lv_at hl 0 rfl) ?_
  refine lv_aload_n hx hb dX0_prepare_14 rfl (lv_at hl 2 rfl) ?_
  refine kcV2 (ci := 1) (q0 := 14) (As := [.ref (aL 0 0)]) (rest := []) E.1 (kV_swap (cx1_copyFrom E (aL (2 + j)) (aL 0) (L 0) (L (2 + j)) hF)) hX (cwV 1 hts gX0_prepare_X1_copyFrom rfl rfl rfl hdX1_copyFrom ⟨Nat.le_of_ble_eq_true rfl, Nat.le_of_ble_eq_true rfl⟩) hKs hK hP hD hS hA _ _ _ e1 (e2 _) rfl rfl rfl rfl hl.1 (Nat.le_of_ble_eq_true rfl) dX0_prepare_15 ⟨Nat.zero_le _, Nat.zero_le _⟩ (fun H locs hP hD hS => ?_)
  exact krV hx hb hr hlk hP hD hS dX0_prepare_18 rfl

theorem hdX0_bringBackPrepared : yX0_bringBackPrepared.cls = RX0 ∧ yX0_bringBackPrepared.cls ≠ "java/lang/invoke/MethodHandle" ∧ yX0_bringBackPrepared.cls ≠ "java/lang/invoke/VarHandle" ∧ (parseMethodDescriptor yX0_bringBackPrepared.desc).map (fun d => d.parameters.length) = some 1 := by decide +kernel
set_option maxHeartbeats 4000000 in
set_option maxRecDepth 100000 in
theorem cx0_bringBackPrepared {l : Launch} {D : va_G} {cI cB cS cJ : ClassId} {K : State → Prop} (E : kE D cI cB cS cJ K) (aL : Nat → Nat → Nat) (L : Nat → St) (j : Nat) (hj : j < 5) (hs : fx0_slotAt aL (L 7 1 0, L 7 1 1) (L 7 1 1) = some (aL (2 + j) 0)) (hF : sx1_copyFrom (L (2 + j)) (L 0)) : kV l D K yX0_bringBackPrepared wsX0_bringBackPrepared 3 122 [.ref (aL 7 1), .ref (aL 0 0)] (hsW cI cS aL L) (hsW cI cS aL (va_up L 0 (fx1_copyFrom (L (2 + j)) (L 0)))) := by
  refine kV_of (own := RX0) (cc := cX0_bringBackPrepared) (maxL := 3) (tys := kty cI cB cS cJ) (fun U h => (E.2 U h).1) (by decide) rfl rfl (Nat.le_of_ble_eq_true rfl) ?_
  intro p e s m below meth c A ls hx hb hr hml hts hown hlk hKs hK hP hD hA hS hl
  have hl : lv_has ls 3 [(0, .ref (aL 7 1)), (1, .ref (aL 0 0))] := hl
  have hX : CallFix p m c cX0_bringBackPrepared 3 s _ wsX0_bringBackPrepared RX0 := ⟨hx, hb, hml, hown, hts⟩
  have hinX0 : ∀ w ∈ wsX00, w ∈ wsX0_bringBackPrepared := fun w h => List.mem_cons_of_mem _ (List.mem_append_left _ (List.mem_append_left _ (List.mem_append_right _ h)))
  have qsv := hts (.fieldLink RX0 21 "LabelStation$History" "saved" "I") (List.mem_of_getElem? (i := 1) rfl)
  refine lv_aload_n hx hb dX0_bringBackPrepared_0 rfl (lv_at hl 0 rfl) ?_
  refine lv_aload_n hx hb dX0_bringBackPrepared_1 rfl (lv_at hl 0 rfl) ?_
  refine va_get (D := D) (ci := 0) (v := .int (L 7 1 1)) (C := RX0) (T := TX0) (N := 3) hx hb hts hinX0 hown hK hP 14 rfl rfl 2 (by decide) qsv (fun _ h9 => h9) rfl dX0_bringBackPrepared_2 ?_
  refine kcR (ci := 0) (q0 := 0) (As := [.int (L 7 1 1)]) (rest := []) E.1 (cx0_slotAt E aL (L 7 1 0, L 7 1 1) (L 7 1 1)) hX (cwV 1 hts gX0_bringBackPrepared_X0_slotAt rfl rfl rfl hdX0_slotAt ⟨Nat.le_of_ble_eq_true rfl, Nat.le_of_ble_eq_true rfl⟩) hKs hK hP hD hS hA _ _ (hs_hj cI cS aL L) (hs_hj cI cS aL L).symm rfl rfl rfl rfl hl.1 (Nat.le_of_ble_eq_true rfl) dX0_bringBackPrepared_5 ⟨Nat.zero_le _, Nat.zero_le _⟩ (fun H locs hP hD hS => ?_)
  rw [hs]
  refine kw_top (v := .ref (aL (2 + j) 0)) rfl ?_
  refine lv_astore_n (lv' := [(2, .ref (aL (2 + j) 0)), (0, .ref (aL 7 1)), (1, .ref (aL 0 0))]) hx hb dX0_bringBackPrepared_8 rfl hl (by decide) rfl (fun ls hl => ?_)
  refine lv_aload_n hx hb dX0_bringBackPrepared_9 rfl (lv_at hl 0 rfl) ?_
  refine lv_ifnull hx hb dX0_bringBackPrepared_10 ?_
  obtain ⟨m1, r1, e1, e2, e3⟩ := hs_sl cI cS aL L hj
  refine lv_aload_n hx hb dX0_bringBackPrepared_13 rfl (lv_at hl 2 rfl) ?_
  refine lv_aload_n hx hb dX0_bringBackPrepared_14 rfl (lv_at hl 0 rfl) ?_
  refine kcV2 (ci := 1) (q0 := 0) (As := [.ref (aL (2 + j) 0)]) (rest := []) E.1 (cx1_copyFrom E (aL 0) (aL (2 + j)) (L (2 + j)) (L 0) hF) hX (cwV 1 hts gX0_bringBackPrepared_X1_copyFrom rfl rfl rfl hdX1_copyFrom ⟨Nat.le_of_ble_eq_true rfl, Nat.le_of_ble_eq_true rfl⟩) hKs hK hP hD hS hA _ _ _ e1 (e3 _) rfl rfl rfl rfl hl.1 (Nat.le_of_ble_eq_true rfl) dX0_bringBackPrepared_15 ⟨Nat.zero_le _, Nat.zero_le _⟩ (fun H locs hP hD hS => ?_)
  exact krV hx hb hr hlk hP hD hS dX0_bringBackPrepared_18 rfl

def fx0_prepare (j : Nat) (L : Nat → St) : Nat → St := va_up L (2 + j) (fx1_copyFrom (L 0) (L (2 + j)))
def fx0_save (j : Nat) (L : Nat → St) : Nat → St := hput (fx0_prepare j L) (fx0_keepPrepared (fx0_prepare j L 7 1 0, fx0_prepare j L 7 1 1))
theorem hdX0_save : yX0_save.cls = RX0 ∧ yX0_save.cls ≠ "java/lang/invoke/MethodHandle" ∧ yX0_save.cls ≠ "java/lang/invoke/VarHandle" ∧ (parseMethodDescriptor yX0_save.desc).map (fun d => d.parameters.length) = some 1 := by decide +kernel
set_option maxHeartbeats 4000000 in
set_option maxRecDepth 100000 in
theorem cx0_save {l : Launch} {D : va_G} {cI cB cS cJ : ClassId} {K : State → Prop} (E : kE D cI cB cS cJ K) (aL : Nat → Nat → Nat) (L : Nat → St) (j : Nat) (hj : j < 5) (hs : fx0_slotAt aL (L 7 1 0, L 7 1 1) (L 7 1 1) = some (aL (2 + j) 0)) (hF : sx1_copyFrom (L 0) (L (2 + j))) : kV l D K yX0_save wsX0_save 4 144 [.ref (aL 7 1), .ref (aL 0 0)] (hsW cI cS aL L) (hsW cI cS aL (fx0_save j L)) := by
  refine kV_of (own := RX0) (cc := cX0_save) (maxL := 2) (tys := kty cI cB cS cJ) (fun U h => (E.2 U h).1) (by decide) rfl rfl (Nat.le_of_ble_eq_true rfl) ?_
  intro p e s m below meth c A ls hx hb hr hml hts hown hlk hKs hK hP hD hA hS hl
  have hl : lv_has ls 2 [(0, .ref (aL 7 1)), (1, .ref (aL 0 0))] := hl
  have hX : CallFix p m c cX0_save 2 s _ wsX0_save RX0 := ⟨hx, hb, hml, hown, hts⟩
  refine lv_aload_n hx hb dX0_save_0 rfl (lv_at hl 0 rfl) ?_
  refine lv_aload_n hx hb dX0_save_1 rfl (lv_at hl 1 rfl) ?_
  refine kcV (ci := 0) (q0 := 14) (As := [.ref (aL 0 0)]) (rest := []) E.1 (cx0_prepare E aL L j hj hs hF) hX (cwV 1 hts gX0_save_X0_prepare rfl rfl rfl hdX0_prepare ⟨Nat.le_of_ble_eq_true rfl, Nat.le_of_ble_eq_true rfl⟩) hKs hK hP hD hS hA _ _ (kw_self _) (kw_self _).symm rfl rfl rfl rfl hl.1 (Nat.le_of_ble_eq_true rfl) dX0_save_2 ⟨Nat.zero_le _, Nat.zero_le _⟩ (fun H locs hP hD hS => ?_)
  have hP : va_P D vwCl (hsW cI cS aL (fx0_prepare j L)) H := hP
  have hD : va_D A (hsW cI cS aL (fx0_prepare j L)) := hD
  refine lv_aload_n hx hb dX0_save_5 rfl (lv_at hl 0 rfl) ?_
  refine kcV (ci := 0) (q0 := 0) (As := []) (rest := []) E.1 (cx0_keepPrepared E aL (fx0_prepare j L 7 1 0, fx0_prepare j L 7 1 1)) hX (cwV 0 hts gX0_save_X0_keepPrepared rfl rfl rfl hdX0_keepPrepared ⟨Nat.le_of_ble_eq_true rfl, Nat.le_of_ble_eq_true rfl⟩) hKs hK hP hD hS hA _ _ (hs_hj cI cS aL _) (hs_hj' cI cS aL _ _) rfl rfl rfl rfl hl.1 (Nat.le_of_ble_eq_true rfl) dX0_save_6 ⟨Nat.zero_le _, Nat.zero_le _⟩ (fun H locs hP hD hS => ?_)
  exact krV hx hb hr hlk hP hD hS dX0_save_9 rfl

def fx0_bringBackPrepared (j : Nat) (L : Nat → St) : Nat → St := va_up L 0 (fx1_copyFrom (L (2 + j)) (L 0))
def fx0_less (L : Nat → St) : Nat → St := hput L (L 7 1 0, L 7 1 1 - 1)
theorem hdX0_bringBackLatest : yX0_bringBackLatest.cls = RX0 ∧ yX0_bringBackLatest.cls ≠ "java/lang/invoke/MethodHandle" ∧ yX0_bringBackLatest.cls ≠ "java/lang/invoke/VarHandle" ∧ (parseMethodDescriptor yX0_bringBackLatest.desc).map (fun d => d.parameters.length) = some 1 := by decide +kernel
set_option maxHeartbeats 4000000 in
set_option maxRecDepth 100000 in
theorem cx0_bringBackLatest {l : Launch} {D : va_G} {cI cB cS cJ : ClassId} {K : State → Prop} (E : kE D cI cB cS cJ K) (aL : Nat → Nat → Nat) (L : Nat → St) (j : Nat) (hj : j < 5) (hn : ¬ L 7 1 1 ≤ 0) (hs : fx0_slotAt aL (fx0_less L 7 1 0, fx0_less L 7 1 1) (fx0_less L 7 1 1) = some (aL (2 + j) 0)) (hF : sx1_copyFrom (fx0_less L (2 + j)) (fx0_less L 0)) : kV l D K yX0_bringBackLatest wsX0_bringBackLatest 4 144 [.ref (aL 7 1), .ref (aL 0 0)] (hsW cI cS aL L) (hsW cI cS aL (fx0_bringBackPrepared j (fx0_less L))) := by
  refine kV_of (own := RX0) (cc := cX0_bringBackLatest) (maxL := 2) (tys := kty cI cB cS cJ) (fun U h => (E.2 U h).1) (by decide) rfl rfl (Nat.le_of_ble_eq_true rfl) ?_
  intro p e s m below meth c A ls hx hb hr hml hts hown hlk hKs hK hP hD hA hS hl
  have hl : lv_has ls 2 [(0, .ref (aL 7 1)), (1, .ref (aL 0 0))] := hl
  have hX : CallFix p m c cX0_bringBackLatest 2 s _ wsX0_bringBackLatest RX0 := ⟨hx, hb, hml, hown, hts⟩
  have hinX0 : ∀ w ∈ wsX00, w ∈ wsX0_bringBackLatest := fun w h => List.mem_cons_of_mem _ (List.mem_append_left _ (List.mem_append_left _ (List.mem_append_right _ h)))
  have qsv := hts (.fieldLink RX0 21 "LabelStation$History" "saved" "I") (List.mem_of_getElem? (i := 1) rfl)
  refine lv_aload_n hx hb dX0_bringBackLatest_0 rfl (lv_at hl 0 rfl) ?_
  refine va_get (D := D) (ci := 0) (v := .int (L 7 1 1)) (C := RX0) (T := TX0) (N := 3) hx hb hts hinX0 hown hK hP 14 rfl rfl 2 (by decide) qsv (fun _ h9 => h9) rfl dX0_bringBackLatest_1 ?_
  refine lv_if_le (tgt := 22) hx hb dX0_bringBackLatest_4 (by decide) (fun c => absurd c hn) (fun _ => ?_)
  refine lv_aload_n hx hb dX0_bringBackLatest_7 rfl (lv_at hl 0 rfl) ?_
  refine lv_dup hx hb dX0_bringBackLatest_8 rfl ?_
  refine va_get (D := D) (ci := 0) (v := .int (L 7 1 1)) (C := RX0) (T := TX0) (N := 3) hx hb hts hinX0 hown hK hP 14 rfl rfl 2 (by decide) qsv (fun _ h9 => h9) rfl dX0_bringBackLatest_9 ?_
  refine lv_iconst (v := 1) hx hb dX0_bringBackLatest_12 (by decide) ?_
  refine lv_isub hx hb dX0_bringBackLatest_13 ?_
  refine va_put (D := D) (ci := 0) (v := .int (L 7 1 1 - 1)) (ty := .int) (C := RX0) (T := TX0) (N := 3) hx hb hts hinX0 tyX0 tyX0_ok nmX0 hown hK hP hD hS 14 rfl rfl 2 (by decide) qsv (fun _ h9 => h9) rfl (by decide +kernel) rfl rfl (Nat.le_of_ble_eq_true rfl) dX0_bringBackLatest_14 (fun H locs hP hD hS => ?_)
  have hP : va_P D vwCl (hsW cI cS aL (fx0_less L)) H := hP
  have hD : va_D A (hsW cI cS aL (fx0_less L)) := hD
  refine lv_aload_n hx hb dX0_bringBackLatest_17 rfl (lv_at hl 0 rfl) ?_
  refine lv_aload_n hx hb dX0_bringBackLatest_18 rfl (lv_at hl 1 rfl) ?_
  refine kcV (ci := 0) (q0 := 14) (As := [.ref (aL 0 0)]) (rest := []) E.1 (cx0_bringBackPrepared E aL (fx0_less L) j hj hs hF) hX (cwV 1 hts gX0_bringBackLatest_X0_bringBackPrepared rfl rfl rfl hdX0_bringBackPrepared ⟨Nat.le_of_ble_eq_true rfl, Nat.le_of_ble_eq_true rfl⟩) hKs hK hP hD hS hA _ _ (kw_self _) (kw_self _).symm rfl rfl rfl rfl hl.1 (Nat.le_of_ble_eq_true rfl) dX0_bringBackLatest_19 ⟨Nat.zero_le _, Nat.zero_le _⟩ (fun H locs hP hD hS => ?_)
  exact krV hx hb hr hlk hP hD hS dX0_bringBackLatest_22 rfl

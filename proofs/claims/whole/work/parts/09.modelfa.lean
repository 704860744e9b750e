/-! the model, whole: printed by my own program (gen.py) out of the listing -/
theorem hdX4_refused : yX4_refused.cls = RX4 ∧ yX4_refused.cls ≠ "java/lang/invoke/MethodHandle" ∧ yX4_refused.cls ≠ "java/lang/invoke/VarHandle" ∧ (parseMethodDescriptor yX4_refused.desc).map (fun d => d.parameters.length) = some 1 := by decide +kernel
def fx4_refused (M : Md) (x1 : Int32) : Int32 × (Md) := (if x1 ≤ 0 then (0, (sset M.1 4 1 x1, M.2)) else (1, (sset M.1 4 1 x1, M.2)))
set_option maxHeartbeats 4000000 in
set_option maxRecDepth 100000 in
theorem cx4_refused {l : Launch} {D : va_G} {cI cB cS cJ : ClassId} {K : State → Prop} (E : kE D cI cB cS cJ K) (am : Nat → Nat) (M : Md) (x1 : Int32) : kI l D K yX4_refused wsX4_refused 0 0 [.ref (am 0), .int x1] (mdW cI am M) (fx4_refused M x1).1 (mdW cI am ((fx4_refused M x1).2)) := by
  refine kI_of (own := RX4) (cc := cX4_refused) (maxL := 2) (tys := kty cI cB cS cJ) (fun U h => (E.2 U h).1) (by decide) rfl rfl (Nat.le_of_ble_eq_true rfl) ?_
  intro p e s m below meth c A ls hx hb hr hml hts hown hlk hKs hK hP hD hA hS hl
  have hl : lv_has ls 2 [(0, .ref (am 0)), (1, .int x1)] := hl
  have hX : CallFix p m c cX4_refused 2 s _ wsX4_refused RX4 := ⟨hx, hb, hml, hown, hts⟩
  have hinX4 : ∀ w ∈ wsX40, w ∈ wsX4_refused := fun w h => List.mem_cons_of_mem _ (List.mem_append_right _ h)
  have q1 := hts (.fieldLink RX4 22 "LabelStationModel" "refusal" "I") (List.mem_of_getElem? (i := 1) rfl)
  generalize hR : fx4_refused M x1 = R
  rw [fx4_refused] at hR
  refine lv_aload_n hx hb dX4_refused_0 rfl (lv_at hl 0 rfl) ?_
  refine lv_iload_n hx hb dX4_refused_1 rfl (lv_at hl 1 rfl) ?_
  refine va_put (D := D) (ci := 4) (v := .int x1) (ty := .int) (C := RX4) (T := TX4) (N := 8) hx hb hts hinX4 tyX4 tyX4_ok nmX4 hown hK hP hD hS 0 rfl rfl 4 (by decide) q1 (fun _ h9 => h9) rfl (by decide +kernel) rfl rfl (Nat.le_of_ble_eq_true rfl) dX4_refused_2 (fun H locs hP hD hS => ?_)
  have hP : va_P D vwCl (mdW cI am (sset M.1 4 1 x1, M.2)) H := hP
  have hD : va_D A (mdW cI am (sset M.1 4 1 x1, M.2)) := hD
  refine lv_iload_n hx hb dX4_refused_5 rfl (lv_at hl 1 rfl) ?_
  refine lv_if_le (tgt := 13) hx hb dX4_refused_6 (by decide) (fun c1 => ?_) (fun c1 => ?_)
  · rw [if_pos c1] at hR
    refine lv_iconst (v := 0) hx hb dX4_refused_13 (by decide) ?_
    subst hR
    exact krZ hx hb hr hlk hP hD hS dX4_refused_14 (by decide) rfl rfl
  · rw [if_neg c1] at hR
    refine lv_iconst (v := 1) hx hb dX4_refused_9 (by decide) ?_
    refine lv_goto (tgt := 14) hx hb dX4_refused_10 (by decide) ?_
    subst hR
    exact krZ hx hb hr hlk hP hD hS dX4_refused_14 (by decide) rfl rfl

theorem hdX4_thrown : yX4_thrown.cls = RX4 ∧ yX4_thrown.cls ≠ "java/lang/invoke/MethodHandle" ∧ yX4_thrown.cls ≠ "java/lang/invoke/VarHandle" ∧ (parseMethodDescriptor yX4_thrown.desc).map (fun d => d.parameters.length) = some 0 := by decide +kernel
def fx4_thrown (M : Md) : Int32 := M.1 4 1
set_option maxHeartbeats 4000000 in
set_option maxRecDepth 100000 in
theorem cx4_thrown {l : Launch} {D : va_G} {cI cB cS cJ : ClassId} {K : State → Prop} (E : kE D cI cB cS cJ K) (am : Nat → Nat) (M : Md) : kI l D K yX4_thrown wsX4_thrown 0 0 [.ref (am 0)] (mdW cI am M) (fx4_thrown M) (mdW cI am M) := by
  refine kI_of (own := RX4) (cc := cX4_thrown) (maxL := 1) (tys := kty cI cB cS cJ) (fun U h => (E.2 U h).1) (by decide) rfl rfl (Nat.le_of_ble_eq_true rfl) ?_
  intro p e s m below meth c A ls hx hb hr hml hts hown hlk hKs hK hP hD hA hS hl
  have hl : lv_has ls 1 [(0, .ref (am 0))] := hl
  have hX : CallFix p m c cX4_thrown 1 s _ wsX4_thrown RX4 := ⟨hx, hb, hml, hown, hts⟩
  have hinX4 : ∀ w ∈ wsX40, w ∈ wsX4_thrown := fun w h => List.mem_cons_of_mem _ (List.mem_append_right _ h)
  have q1 := hts (.fieldLink RX4 22 "LabelStationModel" "refusal" "I") (List.mem_of_getElem? (i := 1) rfl)
  generalize hR : fx4_thrown M = R
  rw [fx4_thrown] at hR
  refine lv_aload_n hx hb dX4_thrown_0 rfl (lv_at hl 0 rfl) ?_
  refine va_get (D := D) (ci := 4) (v := .int (M.1 4 1)) (C := RX4) (T := TX4) (N := 8) hx hb hts hinX4 hown hK hP 0 rfl rfl 4 (by decide) q1 (fun _ h9 => h9) rfl dX4_thrown_1 ?_
  subst hR
  exact krI hx hb hr hlk hP hD hS dX4_thrown_4 rfl rfl

theorem hdX4_saves : yX4_saves.cls = RX4 ∧ yX4_saves.cls ≠ "java/lang/invoke/MethodHandle" ∧ yX4_saves.cls ≠ "java/lang/invoke/VarHandle" ∧ (parseMethodDescriptor yX4_saves.desc).map (fun d => d.parameters.length) = some 0 := by decide +kernel
def fx4_saves_L51 : Nat → Int32 → Md → Md
  | 0, _, M => M
  | n51 + 1, y1, M => (if 1203 ≤ y1 then (sset M.1 4 0 ((M.1 4 0) + 1), M.2) else (bnd (upd (M.1 1) ((1203 * (M.1 4 0)) + y1).toNatClampNeg ((M.1 0) (y1).toNatClampNeg)) (fun g52004 => fx4_saves_L51 n51 (y1 + 1) (va_up M.1 1 g52004, M.2))))
def sx4_saves_L51 : Nat → Int32 → Md → Prop
  | 0, _, _ => False
  | n51 + 1, y1, M => (if 1203 ≤ y1 then True else (vp_in (y1) 1203 ∧ (vp_in ((1203 * (M.1 4 0)) + y1) 4812 ∧ (bnd (upd (M.1 1) ((1203 * (M.1 4 0)) + y1).toNatClampNeg ((M.1 0) (y1).toNatClampNeg)) (fun g52004 => sx4_saves_L51 n51 (y1 + 1) (va_up M.1 1 g52004, M.2))))))
def fx4_saves_L10 : Nat → Int32 → Md → Md
  | 0, _, M => M
  | n10 + 1, y1, M => (if 3609 ≤ y1 then fx4_saves_L51 kfu 0 (sset M.1 4 0 ((M.1 4 0) - 1), M.2) else (bnd (upd (M.1 1) (y1).toNatClampNeg ((M.1 1) (y1 + 1203).toNatClampNeg)) (fun g11004 => fx4_saves_L10 n10 (y1 + 1) (va_up M.1 1 g11004, M.2))))
def sx4_saves_L10 : Nat → Int32 → Md → Prop
  | 0, _, _ => False
  | n10 + 1, y1, M => (if 3609 ≤ y1 then sx4_saves_L51 kfu 0 (sset M.1 4 0 ((M.1 4 0) - 1), M.2) else (vp_in (y1 + 1203) 4812 ∧ (vp_in (y1) 4812 ∧ (bnd (upd (M.1 1) (y1).toNatClampNeg ((M.1 1) (y1 + 1203).toNatClampNeg)) (fun g11004 => sx4_saves_L10 n10 (y1 + 1) (va_up M.1 1 g11004, M.2))))))
def fx4_saves (M : Md) : Md := (if (M.1 4 0) = 4 then fx4_saves_L10 kfu 0 M else fx4_saves_L51 kfu 0 M)
def sx4_saves (M : Md) : Prop := (if (M.1 4 0) = 4 then sx4_saves_L10 kfu 0 M else sx4_saves_L51 kfu 0 M)
set_option maxHeartbeats 4000000 in
set_option maxRecDepth 100000 in
theorem cx4_saves {l : Launch} {D : va_G} {cI cB cS cJ : ClassId} {K : State → Prop} (E : kE D cI cB cS cJ K) (am : Nat → Nat) (M : Md) (hF : sx4_saves M) : kV l D K yX4_saves wsX4_saves 0 0 [.ref (am 0)] (mdW cI am M)  (mdW cI am (fx4_saves M)) := by
  refine kV_of (own := RX4) (cc := cX4_saves) (maxL := 2) (tys := kty cI cB cS cJ) (fun U h => (E.2 U h).1) (by decide) rfl rfl (Nat.le_of_ble_eq_true rfl) ?_
  intro p e s m below meth c A ls hx hb hr hml hts hown hlk hKs hK hP hD hA hS hl
  have hl : lv_has ls 2 [(0, .ref (am 0))] := hl
  have hX : CallFix p m c cX4_saves 2 s _ wsX4_saves RX4 := ⟨hx, hb, hml, hown, hts⟩
  have hinX4 : ∀ w ∈ wsX40, w ∈ wsX4_saves := fun w h => List.mem_cons_of_mem _ (List.mem_append_right _ h)
  have q1 := hts (.fieldLink RX4 26 "LabelStationModel" "saved" "I") (List.mem_of_getElem? (i := 1) rfl)
  have q2 := hts (.fieldLink RX4 13 "LabelStationModel" "past" "[I") (List.mem_of_getElem? (i := 2) rfl)
  have q3 := hts (.fieldLink RX4 7 "LabelStationModel" "now" "[I") (List.mem_of_getElem? (i := 3) rfl)
  generalize hR : fx4_saves M = R
  rw [fx4_saves] at hR
  rw [sx4_saves] at hF
  refine lv_aload_n hx hb dX4_saves_0 rfl (lv_at hl 0 rfl) ?_
  refine va_get (D := D) (ci := 4) (v := .int (M.1 4 0)) (C := RX4) (T := TX4) (N := 8) hx hb hts hinX4 hown hK hP 0 rfl rfl 3 (by decide) q1 (fun _ h9 => h9) rfl dX4_saves_1 ?_
  refine lv_iconst (v := 4) hx hb dX4_saves_4 (by decide) ?_
  refine lv_icmp_ne (tgt := 49) hx hb dX4_saves_5 (by decide) (fun c1 => ?_) (fun c1 => ?_)
  · rw [if_neg c1] at hR hF
    refine lv_iconst (v := 0) hx hb dX4_saves_49 (by decide) ?_
    refine lv_istore_n (lv' := [(1, .int 0), (0, .ref (am 0))]) hx hb dX4_saves_50 rfl hl (by decide) rfl (fun ls hl => ?_)
    have loop51 : ∀ (n51 : Nat) (y1 : Int32) (M : Md) (H : Heap) (locs : List Loc) (ls : Array Slot), fx4_saves_L51 n51 y1 M = R → sx4_saves_L51 n51 y1 M → va_P D vwCl (mdW cI am M) H → va_D A (mdW cI am M) → va_S A s.heap H locs → lv_has ls 2 [(1, .int y1), (0, .ref (am 0))] → W p l e (kRm 0 0) s m ([.ref (am 0)] : List Value).toArray below meth c H locs 0 0 (kQV D below (mdW cI am R) A ([.ref (am 0)] : List Value).toArray s) (F0 m 51 ls []) := by
      intro n51
      induction n51 with
      | zero => intro y1 M H locs ls hR hF; exact hF.elim
      | succ n51 ih51 =>
        intro y1 M H locs ls hR hF hP hD hS hl
        rw [fx4_saves_L51] at hR
        rw [sx4_saves_L51] at hF
        refine lv_iload_n hx hb dX4_saves_51 rfl (lv_at hl 0 rfl) ?_
        refine lv_sipush (v := 1203) hx hb dX4_saves_52 (by decide) ?_
        refine lv_icmp_ge (tgt := 85) hx hb dX4_saves_55 (by decide) (fun c52001 => ?_) (fun c52001 => ?_)
        · rw [if_pos c52001] at hR hF
          refine lv_aload_n hx hb dX4_saves_85 rfl (lv_at hl 1 rfl) ?_
          refine lv_dup hx hb dX4_saves_86 rfl ?_
          refine va_get (D := D) (ci := 4) (v := .int (M.1 4 0)) (C := RX4) (T := TX4) (N := 8) hx hb hts hinX4 hown hK hP 0 rfl rfl 3 (by decide) q1 (fun _ h9 => h9) rfl dX4_saves_87 ?_
          refine lv_iconst (v := 1) hx hb dX4_saves_90 (by decide) ?_
          refine lv_iadd hx hb dX4_saves_91 ?_
          refine va_put (D := D) (ci := 4) (v := .int ((M.1 4 0) + 1)) (ty := .int) (C := RX4) (T := TX4) (N := 8) hx hb hts hinX4 tyX4 tyX4_ok nmX4 hown hK hP hD hS 0 rfl rfl 3 (by decide) q1 (fun _ h9 => h9) rfl (by decide +kernel) rfl rfl (Nat.le_of_ble_eq_true rfl) dX4_saves_92 (fun H locs hP hD hS => ?_)
          have hP : va_P D vwCl (mdW cI am (sset M.1 4 0 ((M.1 4 0) + 1), M.2)) H := hP
          have hD : va_D A (mdW cI am (sset M.1 4 0 ((M.1 4 0) + 1), M.2)) := hD
          subst hR
          exact krV hx hb hr hlk hP hD hS dX4_saves_95 rfl
        · rw [if_neg c52001] at hR hF
          refine lv_aload_n hx hb dX4_saves_58 rfl (lv_at hl 1 rfl) ?_
          refine va_get (D := D) (ci := 4) (v := .ref (am 2)) (C := RX4) (T := TX4) (N := 8) hx hb hts hinX4 hown hK hP 0 rfl rfl 1 (by decide) q2 (fun _ h9 => h9) rfl dX4_saves_59 ?_
          refine lv_sipush (v := 1203) hx hb dX4_saves_62 (by decide) ?_
          refine lv_aload_n hx hb dX4_saves_65 rfl (lv_at hl 1 rfl) ?_
          refine va_get (D := D) (ci := 4) (v := .int (M.1 4 0)) (C := RX4) (T := TX4) (N := 8) hx hb hts hinX4 hown hK hP 0 rfl rfl 3 (by decide) q1 (fun _ h9 => h9) rfl dX4_saves_66 ?_
          refine lv_imul hx hb dX4_saves_69 ?_
          refine lv_iload_n hx hb dX4_saves_70 rfl (lv_at hl 0 rfl) ?_
          refine lv_iadd hx hb dX4_saves_71 ?_
          refine lv_aload_n hx hb dX4_saves_72 rfl (lv_at hl 1 rfl) ?_
          refine va_get (D := D) (ci := 4) (v := .ref (am 1)) (C := RX4) (T := TX4) (N := 8) hx hb hts hinX4 hown hK hP 0 rfl rfl 0 (by decide) q3 (fun _ h9 => h9) rfl dX4_saves_73 ?_
          refine lv_iload_n hx hb dX4_saves_76 rfl (lv_at hl 0 rfl) ?_
          obtain ⟨hi52002, hF⟩ := hF
          refine va_iald hx hb hK hP 1 0 rfl rfl hi52002 dX4_saves_77 ?_
          obtain ⟨hi52003, hF⟩ := hF
          refine va_iast hx hb hK hP hD hS 2 0 rfl rfl hi52003 dX4_saves_78 (fun H locs hP hD hS => ?_)
          have hP : va_P D vwCl (mdW cI am (va_up M.1 1 (upd (M.1 1) ((1203 * (M.1 4 0)) + y1).toNatClampNeg ((M.1 0) (y1).toNatClampNeg)), M.2)) H := hP
          have hD : va_D A (mdW cI am (va_up M.1 1 (upd (M.1 1) ((1203 * (M.1 4 0)) + y1).toNatClampNeg ((M.1 0) (y1).toNatClampNeg)), M.2)) := hD
          generalize eg52004 : upd (M.1 1) ((1203 * (M.1 4 0)) + y1).toNatClampNeg ((M.1 0) (y1).toNatClampNeg) = g52004 at hR hP hD hF
          replace hR := bnd_e hR
          replace hF := bnd_p hF
          refine lv_iinc (v := y1 + 1) (lv' := [(1, .int (y1 + 1)), (0, .ref (am 0))]) hx hb dX4_saves_79 hl (k := 0) rfl rfl (by decide) rfl (fun ls hl => ?_)
          refine lv_goto (tgt := 51) hx hb dX4_saves_82 (by decide) ?_
          exact ih51 (y1 + 1) (va_up M.1 1 g52004, M.2) _ _ ls hR hF hP hD hS (lv_sub hl [0, 1] rfl)
    exact loop51 kfu 0 M _ _ ls hR hF hP hD hS (lv_sub hl [0, 1] rfl)
  · rw [if_pos c1] at hR hF
    refine lv_iconst (v := 0) hx hb dX4_saves_8 (by decide) ?_
    refine lv_istore_n (lv' := [(1, .int 0), (0, .ref (am 0))]) hx hb dX4_saves_9 rfl hl (by decide) rfl (fun ls hl => ?_)
    have loop10 : ∀ (n10 : Nat) (y1 : Int32) (M : Md) (H : Heap) (locs : List Loc) (ls : Array Slot), fx4_saves_L10 n10 y1 M = R → sx4_saves_L10 n10 y1 M → va_P D vwCl (mdW cI am M) H → va_D A (mdW cI am M) → va_S A s.heap H locs → lv_has ls 2 [(1, .int y1), (0, .ref (am 0))] → W p l e (kRm 0 0) s m ([.ref (am 0)] : List Value).toArray below meth c H locs 0 0 (kQV D below (mdW cI am R) A ([.ref (am 0)] : List Value).toArray s) (F0 m 10 ls []) := by
      intro n10
      induction n10 with
      | zero => intro y1 M H locs ls hR hF; exact hF.elim
      | succ n10 ih10 =>
        intro y1 M H locs ls hR hF hP hD hS hl
        rw [fx4_saves_L10] at hR
        rw [sx4_saves_L10] at hF
        refine lv_iload_n hx hb dX4_saves_10 rfl (lv_at hl 0 rfl) ?_
        refine lv_sipush (v := 3609) hx hb dX4_saves_11 (by decide) ?_
        refine lv_icmp_ge (tgt := 39) hx hb dX4_saves_14 (by decide) (fun c11001 => ?_) (fun c11001 => ?_)
        · rw [if_pos c11001] at hR hF
          refine lv_aload_n hx hb dX4_saves_39 rfl (lv_at hl 1 rfl) ?_
          refine lv_dup hx hb dX4_saves_40 rfl ?_
          refine va_get (D := D) (ci := 4) (v := .int (M.1 4 0)) (C := RX4) (T := TX4) (N := 8) hx hb hts hinX4 hown hK hP 0 rfl rfl 3 (by decide) q1 (fun _ h9 => h9) rfl dX4_saves_41 ?_
          refine lv_iconst (v := 1) hx hb dX4_saves_44 (by decide) ?_
          refine lv_isub hx hb dX4_saves_45 ?_
          refine va_put (D := D) (ci := 4) (v := .int ((M.1 4 0) - 1)) (ty := .int) (C := RX4) (T := TX4) (N := 8) hx hb hts hinX4 tyX4 tyX4_ok nmX4 hown hK hP hD hS 0 rfl rfl 3 (by decide) q1 (fun _ h9 => h9) rfl (by decide +kernel) rfl rfl (Nat.le_of_ble_eq_true rfl) dX4_saves_46 (fun H locs hP hD hS => ?_)
          have hP : va_P D vwCl (mdW cI am (sset M.1 4 0 ((M.1 4 0) - 1), M.2)) H := hP
          have hD : va_D A (mdW cI am (sset M.1 4 0 ((M.1 4 0) - 1), M.2)) := hD
          refine lv_iconst (v := 0) hx hb dX4_saves_49 (by decide) ?_
          refine lv_istore_n (lv' := [(1, .int 0), (0, .ref (am 0))]) hx hb dX4_saves_50 rfl hl (by decide) rfl (fun ls hl => ?_)
          have loop51 : ∀ (n51 : Nat) (y1 : Int32) (M : Md) (H : Heap) (locs : List Loc) (ls : Array Slot), fx4_saves_L51 n51 y1 M = R → sx4_saves_L51 n51 y1 M → va_P D vwCl (mdW cI am M) H → va_D A (mdW cI am M) → va_S A s.heap H locs → lv_has ls 2 [(1, .int y1), (0, .ref (am 0))] → W p l e (kRm 0 0) s m ([.ref (am 0)] : List Value).toArray below meth c H locs 0 0 (kQV D below (mdW cI am R) A ([.ref (am 0)] : List Value).toArray s) (F0 m 51 ls []) := by
            intro n51
            induction n51 with
            | zero => intro y1 M H locs ls hR hF; exact hF.elim
            | succ n51 ih51 =>
              intro y1 M H locs ls hR hF hP hD hS hl
              rw [fx4_saves_L51] at hR
              rw [sx4_saves_L51] at hF
              refine lv_iload_n hx hb dX4_saves_51 rfl (lv_at hl 0 rfl) ?_
              refine lv_sipush (v := 1203) hx hb dX4_saves_52 (by decide) ?_
              refine lv_icmp_ge (tgt := 85) hx hb dX4_saves_55 (by decide) (fun c52001 => ?_) (fun c52001 => ?_)
              · rw [if_pos c52001] at hR hF
                refine lv_aload_n hx hb dX4_saves_85 rfl (lv_at hl 1 rfl) ?_
                refine lv_dup hx hb dX4_saves_86 rfl ?_
                refine va_get (D := D) (ci := 4) (v := .int (M.1 4 0)) (C := RX4) (T := TX4) (N := 8) hx hb hts hinX4 hown hK hP 0 rfl rfl 3 (by decide) q1 (fun _ h9 => h9) rfl dX4_saves_87 ?_
                refine lv_iconst (v := 1) hx hb dX4_saves_90 (by decide) ?_
                refine lv_iadd hx hb dX4_saves_91 ?_
                refine va_put (D := D) (ci := 4) (v := .int ((M.1 4 0) + 1)) (ty := .int) (C := RX4) (T := TX4) (N := 8) hx hb hts hinX4 tyX4 tyX4_ok nmX4 hown hK hP hD hS 0 rfl rfl 3 (by decide) q1 (fun _ h9 => h9) rfl (by decide +kernel) rfl rfl (Nat.le_of_ble_eq_true rfl) dX4_saves_92 (fun H locs hP hD hS => ?_)
                have hP : va_P D vwCl (mdW cI am (sset M.1 4 0 ((M.1 4 0) + 1), M.2)) H := hP
                have hD : va_D A (mdW cI am (sset M.1 4 0 ((M.1 4 0) + 1), M.2)) := hD
                subst hR
                exact krV hx hb hr hlk hP hD hS dX4_saves_95 rfl
              · rw [if_neg c52001] at hR hF
                refine lv_aload_n hx hb dX4_saves_58 rfl (lv_at hl 1 rfl) ?_
                refine va_get (D := D) (ci := 4) (v := .ref (am 2)) (C := RX4) (T := TX4) (N := 8) hx hb hts hinX4 hown hK hP 0 rfl rfl 1 (by decide) q2 (fun _ h9 => h9) rfl dX4_saves_59 ?_
                refine lv_sipush (v := 1203) hx hb dX4_saves_62 (by decide) ?_
                refine lv_aload_n hx hb dX4_saves_65 rfl (lv_at hl 1 rfl) ?_
                refine va_get (D := D) (ci := 4) (v := .int (M.1 4 0)) (C := RX4) (T := TX4) (N := 8) hx hb hts hinX4 hown hK hP 0 rfl rfl 3 (by decide) q1 (fun _ h9 => h9) rfl dX4_saves_66 ?_
                refine lv_imul hx hb dX4_saves_69 ?_
                refine lv_iload_n hx hb dX4_saves_70 rfl (lv_at hl 0 rfl) ?_
                refine lv_iadd hx hb dX4_saves_71 ?_
                refine lv_aload_n hx hb dX4_saves_72 rfl (lv_at hl 1 rfl) ?_
                refine va_get (D := D) (ci := 4) (v := .ref (am 1)) (C := RX4) (T := TX4) (N := 8) hx hb hts hinX4 hown hK hP 0 rfl rfl 0 (by decide) q3 (fun _ h9 => h9) rfl dX4_saves_73 ?_
                refine lv_iload_n hx hb dX4_saves_76 rfl (lv_at hl 0 rfl) ?_
                obtain ⟨hi52002, hF⟩ := hF
                refine va_iald hx hb hK hP 1 0 rfl rfl hi52002 dX4_saves_77 ?_
                obtain ⟨hi52003, hF⟩ := hF
                refine va_iast hx hb hK hP hD hS 2 0 rfl rfl hi52003 dX4_saves_78 (fun H locs hP hD hS => ?_)
                have hP : va_P D vwCl (mdW cI am (va_up M.1 1 (upd (M.1 1) ((1203 * (M.1 4 0)) + y1).toNatClampNeg ((M.1 0) (y1).toNatClampNeg)), M.2)) H := hP
                have hD : va_D A (mdW cI am (va_up M.1 1 (upd (M.1 1) ((1203 * (M.1 4 0)) + y1).toNatClampNeg ((M.1 0) (y1).toNatClampNeg)), M.2)) := hD
                generalize eg52004 : upd (M.1 1) ((1203 * (M.1 4 0)) + y1).toNatClampNeg ((M.1 0) (y1).toNatClampNeg) = g52004 at hR hP hD hF
                replace hR := bnd_e hR
                replace hF := bnd_p hF
                refine lv_iinc (v := y1 + 1) (lv' := [(1, .int (y1 + 1)), (0, .ref (am 0))]) hx hb dX4_saves_79 hl (k := 0) rfl rfl (by decide) rfl (fun ls hl => ?_)
                refine lv_goto (tgt := 51) hx hb dX4_saves_82 (by decide) ?_
                exact ih51 (y1 + 1) (va_up M.1 1 g52004, M.2) _ _ ls hR hF hP hD hS (lv_sub hl [0, 1] rfl)
          exact loop51 kfu 0 (sset M.1 4 0 ((M.1 4 0) - 1), M.2) _ _ ls hR hF hP hD hS (lv_sub hl [0, 1] rfl)
        · rw [if_neg c11001] at hR hF
          refine lv_aload_n hx hb dX4_saves_17 rfl (lv_at hl 1 rfl) ?_
          refine va_get (D := D) (ci := 4) (v := .ref (am 2)) (C := RX4) (T := TX4) (N := 8) hx hb hts hinX4 hown hK hP 0 rfl rfl 1 (by decide) q2 (fun _ h9 => h9) rfl dX4_saves_18 ?_
          refine lv_iload_n hx hb dX4_saves_21 rfl (lv_at hl 0 rfl) ?_
          refine lv_aload_n hx hb dX4_saves_22 rfl (lv_at hl 1 rfl) ?_
          refine va_get (D := D) (ci := 4) (v := .ref (am 2)) (C := RX4) (T := TX4) (N := 8) hx hb hts hinX4 hown hK hP 0 rfl rfl 1 (by decide) q2 (fun _ h9 => h9) rfl dX4_saves_23 ?_
          refine lv_iload_n hx hb dX4_saves_26 rfl (lv_at hl 0 rfl) ?_
          refine lv_sipush (v := 1203) hx hb dX4_saves_27 (by decide) ?_
          refine lv_iadd hx hb dX4_saves_30 ?_
          obtain ⟨hi11002, hF⟩ := hF
          refine va_iald hx hb hK hP 2 0 rfl rfl hi11002 dX4_saves_31 ?_
          obtain ⟨hi11003, hF⟩ := hF
          refine va_iast hx hb hK hP hD hS 2 0 rfl rfl hi11003 dX4_saves_32 (fun H locs hP hD hS => ?_)
          have hP : va_P D vwCl (mdW cI am (va_up M.1 1 (upd (M.1 1) (y1).toNatClampNeg ((M.1 1) (y1 + 1203).toNatClampNeg)), M.2)) H := hP
          have hD : va_D A (mdW cI am (va_up M.1 1 (upd (M.1 1) (y1).toNatClampNeg ((M.1 1) (y1 + 1203).toNatClampNeg)), M.2)) := hD
          generalize eg11004 : upd (M.1 1) (y1).toNatClampNeg ((M.1 1) (y1 + 1203).toNatClampNeg) = g11004 at hR hP hD hF
          replace hR := bnd_e hR
          replace hF := bnd_p hF
          refine lv_iinc (v := y1 + 1) (lv' := [(1, .int (y1 + 1)), (0, .ref (am 0))]) hx hb dX4_saves_33 hl (k := 0) rfl rfl (by decide) rfl (fun ls hl => ?_)
          refine lv_goto (tgt := 10) hx hb dX4_saves_36 (by decide) ?_
          exact ih10 (y1 + 1) (va_up M.1 1 g11004, M.2) _ _ ls hR hF hP hD hS (lv_sub hl [0, 1] rfl)
    exact loop10 kfu 0 M _ _ ls hR hF hP hD hS (lv_sub hl [0, 1] rfl)

theorem hdX4_laysAside : yX4_laysAside.cls = RX4 ∧ yX4_laysAside.cls ≠ "java/lang/invoke/MethodHandle" ∧ yX4_laysAside.cls ≠ "java/lang/invoke/VarHandle" ∧ (parseMethodDescriptor yX4_laysAside.desc).map (fun d => d.parameters.length) = some 0 := by decide +kernel
def fx4_laysAside_L2 : Nat → Int32 → Md → Md
  | 0, _, M => M
  | n2 + 1, y1, M => (if 1203 ≤ y1 then M else (bnd (upd (M.1 2) (y1).toNatClampNeg ((M.1 0) (y1).toNatClampNeg)) (fun g3004 => fx4_laysAside_L2 n2 (y1 + 1) (va_up M.1 2 g3004, M.2))))
def sx4_laysAside_L2 : Nat → Int32 → Md → Prop
  | 0, _, _ => False
  | n2 + 1, y1, M => (if 1203 ≤ y1 then True else (vp_in (y1) 1203 ∧ (vp_in (y1) 1203 ∧ (bnd (upd (M.1 2) (y1).toNatClampNeg ((M.1 0) (y1).toNatClampNeg)) (fun g3004 => sx4_laysAside_L2 n2 (y1 + 1) (va_up M.1 2 g3004, M.2))))))
def fx4_laysAside (M : Md) : Md := fx4_laysAside_L2 kfu 0 M
def sx4_laysAside (M : Md) : Prop := sx4_laysAside_L2 kfu 0 M
set_option maxHeartbeats 4000000 in
set_option maxRecDepth 100000 in
theorem cx4_laysAside {l : Launch} {D : va_G} {cI cB cS cJ : ClassId} {K : State → Prop} (E : kE D cI cB cS cJ K) (am : Nat → Nat) (M : Md) (hF : sx4_laysAside M) : kV l D K yX4_laysAside wsX4_laysAside 0 0 [.ref (am 0)] (mdW cI am M)  (mdW cI am (fx4_laysAside M)) := by
  refine kV_of (own := RX4) (cc := cX4_laysAside) (maxL := 2) (tys := kty cI cB cS cJ) (fun U h => (E.2 U h).1) (by decide) rfl rfl (Nat.le_of_ble_eq_true rfl) ?_
  intro p e s m below meth c A ls hx hb hr hml hts hown hlk hKs hK hP hD hA hS hl
  have hl : lv_has ls 2 [(0, .ref (am 0))] := hl
  have hX : CallFix p m c cX4_laysAside 2 s _ wsX4_laysAside RX4 := ⟨hx, hb, hml, hown, hts⟩
  have hinX4 : ∀ w ∈ wsX40, w ∈ wsX4_laysAside := fun w h => List.mem_cons_of_mem _ (List.mem_append_right _ h)
  have q1 := hts (.fieldLink RX4 16 "LabelStationModel" "aside" "[I") (List.mem_of_getElem? (i := 1) rfl)
  have q2 := hts (.fieldLink RX4 7 "LabelStationModel" "now" "[I") (List.mem_of_getElem? (i := 2) rfl)
  generalize hR : fx4_laysAside M = R
  rw [fx4_laysAside] at hR
  rw [sx4_laysAside] at hF
  refine lv_iconst (v := 0) hx hb dX4_laysAside_0 (by decide) ?_
  refine lv_istore_n (lv' := [(1, .int 0), (0, .ref (am 0))]) hx hb dX4_laysAside_1 rfl hl (by decide) rfl (fun ls hl => ?_)
  have loop2 : ∀ (n2 : Nat) (y1 : Int32) (M : Md) (H : Heap) (locs : List Loc) (ls : Array Slot), fx4_laysAside_L2 n2 y1 M = R → sx4_laysAside_L2 n2 y1 M → va_P D vwCl (mdW cI am M) H → va_D A (mdW cI am M) → va_S A s.heap H locs → lv_has ls 2 [(1, .int y1), (0, .ref (am 0))] → W p l e (kRm 0 0) s m ([.ref (am 0)] : List Value).toArray below meth c H locs 0 0 (kQV D below (mdW cI am R) A ([.ref (am 0)] : List Value).toArray s) (F0 m 2 ls []) := by
    intro n2
    induction n2 with
    | zero => intro y1 M H locs ls hR hF; exact hF.elim
    | succ n2 ih2 =>
      intro y1 M H locs ls hR hF hP hD hS hl
      rw [fx4_laysAside_L2] at hR
      rw [sx4_laysAside_L2] at hF
      refine lv_iload_n hx hb dX4_laysAside_2 rfl (lv_at hl 0 rfl) ?_
      refine lv_sipush (v := 1203) hx hb dX4_laysAside_3 (by decide) ?_
      refine lv_icmp_ge (tgt := 27) hx hb dX4_laysAside_6 (by decide) (fun c3001 => ?_) (fun c3001 => ?_)
      · rw [if_pos c3001] at hR hF
        subst hR
        exact krV hx hb hr hlk hP hD hS dX4_laysAside_27 rfl
      · rw [if_neg c3001] at hR hF
        refine lv_aload_n hx hb dX4_laysAside_9 rfl (lv_at hl 1 rfl) ?_
        refine va_get (D := D) (ci := 4) (v := .ref (am 3)) (C := RX4) (T := TX4) (N := 8) hx hb hts hinX4 hown hK hP 0 rfl rfl 2 (by decide) q1 (fun _ h9 => h9) rfl dX4_laysAside_10 ?_
        refine lv_iload_n hx hb dX4_laysAside_13 rfl (lv_at hl 0 rfl) ?_
        refine lv_aload_n hx hb dX4_laysAside_14 rfl (lv_at hl 1 rfl) ?_
        refine va_get (D := D) (ci := 4) (v := .ref (am 1)) (C := RX4) (T := TX4) (N := 8) hx hb hts hinX4 hown hK hP 0 rfl rfl 0 (by decide) q2 (fun _ h9 => h9) rfl dX4_laysAside_15 ?_
        refine lv_iload_n hx hb dX4_laysAside_18 rfl (lv_at hl 0 rfl) ?_
        obtain ⟨hi3002, hF⟩ := hF
        refine va_iald hx hb hK hP 1 0 rfl rfl hi3002 dX4_laysAside_19 ?_
        obtain ⟨hi3003, hF⟩ := hF
        refine va_iast hx hb hK hP hD hS 3 0 rfl rfl hi3003 dX4_laysAside_20 (fun H locs hP hD hS => ?_)
        have hP : va_P D vwCl (mdW cI am (va_up M.1 2 (upd (M.1 2) (y1).toNatClampNeg ((M.1 0) (y1).toNatClampNeg)), M.2)) H := hP
        have hD : va_D A (mdW cI am (va_up M.1 2 (upd (M.1 2) (y1).toNatClampNeg ((M.1 0) (y1).toNatClampNeg)), M.2)) := hD
        generalize eg3004 : upd (M.1 2) (y1).toNatClampNeg ((M.1 0) (y1).toNatClampNeg) = g3004 at hR hP hD hF
        replace hR := bnd_e hR
        replace hF := bnd_p hF
        refine lv_iinc (v := y1 + 1) (lv' := [(1, .int (y1 + 1)), (0, .ref (am 0))]) hx hb dX4_laysAside_21 hl (k := 0) rfl rfl (by decide) rfl (fun ls hl => ?_)
        refine lv_goto (tgt := 2) hx hb dX4_laysAside_24 (by decide) ?_
        exact ih2 (y1 + 1) (va_up M.1 2 g3004, M.2) _ _ ls hR hF hP hD hS (lv_sub hl [0, 1] rfl)
  exact loop2 kfu 0 M _ _ ls hR hF hP hD hS (lv_sub hl [0, 1] rfl)

theorem hdX4_takesBack : yX4_takesBack.cls = RX4 ∧ yX4_takesBack.cls ≠ "java/lang/invoke/MethodHandle" ∧ yX4_takesBack.cls ≠ "java/lang/invoke/VarHandle" ∧ (parseMethodDescriptor yX4_takesBack.desc).map (fun d => d.parameters.length) = some 0 := by decide +kernel
def fx4_takesBack_L2 : Nat → Int32 → Md → Md
  | 0, _, M => M
  | n2 + 1, y1, M => (if 1203 ≤ y1 then M else (bnd (upd (M.1 0) (y1).toNatClampNeg ((M.1 2) (y1).toNatClampNeg)) (fun g3004 => fx4_takesBack_L2 n2 (y1 + 1) (va_up M.1 0 g3004, M.2))))
def sx4_takesBack_L2 : Nat → Int32 → Md → Prop
  | 0, _, _ => False
  | n2 + 1, y1, M => (if 1203 ≤ y1 then True else (vp_in (y1) 1203 ∧ (vp_in (y1) 1203 ∧ (bnd (upd (M.1 0) (y1).toNatClampNeg ((M.1 2) (y1).toNatClampNeg)) (fun g3004 => sx4_takesBack_L2 n2 (y1 + 1) (va_up M.1 0 g3004, M.2))))))
def fx4_takesBack (M : Md) : Md := fx4_takesBack_L2 kfu 0 M
def sx4_takesBack (M : Md) : Prop := sx4_takesBack_L2 kfu 0 M
set_option maxHeartbeats 4000000 in
set_option maxRecDepth 100000 in
theorem cx4_takesBack {l : Launch} {D : va_G} {cI cB cS cJ : ClassId} {K : State → Prop} (E : kE D cI cB cS cJ K) (am : Nat → Nat) (M : Md) (hF : sx4_takesBack M) : kV l D K yX4_takesBack wsX4_takesBack 0 0 [.ref (am 0)] (mdW cI am M)  (mdW cI am (fx4_takesBack M)) := by
  refine kV_of (own := RX4) (cc := cX4_takesBack) (maxL := 2) (tys := kty cI cB cS cJ) (fun U h => (E.2 U h).1) (by decide) rfl rfl (Nat.le_of_ble_eq_true rfl) ?_
  intro p e s m below meth c A ls hx hb hr hml hts hown hlk hKs hK hP hD hA hS hl
  have hl : lv_has ls 2 [(0, .ref (am 0))] := hl
  have hX : CallFix p m c cX4_takesBack 2 s _ wsX4_takesBack RX4 := ⟨hx, hb, hml, hown, hts⟩
  have hinX4 : ∀ w ∈ wsX40, w ∈ wsX4_takesBack := fun w h => List.mem_cons_of_mem _ (List.mem_append_right _ h)
  have q1 := hts (.fieldLink RX4 7 "LabelStationModel" "now" "[I") (List.mem_of_getElem? (i := 1) rfl)
  have q2 := hts (.fieldLink RX4 16 "LabelStationModel" "aside" "[I") (List.mem_of_getElem? (i := 2) rfl)
  generalize hR : fx4_takesBack M = R
  rw [fx4_takesBack] at hR
  rw [sx4_takesBack] at hF
  refine lv_iconst (v := 0) hx hb dX4_takesBack_0 (by decide) ?_
  refine lv_istore_n (lv' := [(1, .int 0), (0, .ref (am 0))]) hx hb dX4_takesBack_1 rfl hl (by decide) rfl (fun ls hl => ?_)
  have loop2 : ∀ (n2 : Nat) (y1 : Int32) (M : Md) (H : Heap) (locs : List Loc) (ls : Array Slot), fx4_takesBack_L2 n2 y1 M = R → sx4_takesBack_L2 n2 y1 M → va_P D vwCl (mdW cI am M) H → va_D A (mdW cI am M) → va_S A s.heap H locs → lv_has ls 2 [(1, .int y1), (0, .ref (am 0))] → W p l e (kRm 0 0) s m ([.ref (am 0)] : List Value).toArray below meth c H locs 0 0 (kQV D below (mdW cI am R) A ([.ref (am 0)] : List Value).toArray s) (F0 m 2 ls []) := by
    intro n2
    induction n2 with
    | zero => intro y1 M H locs ls hR hF; exact hF.elim
    | succ n2 ih2 =>
      intro y1 M H locs ls hR hF hP hD hS hl
      rw [fx4_takesBack_L2] at hR
      rw [sx4_takesBack_L2] at hF
      refine lv_iload_n hx hb dX4_takesBack_2 rfl (lv_at hl 0 rfl) ?_
      refine lv_sipush (v := 1203) hx hb dX4_takesBack_3 (by decide) ?_
      refine lv_icmp_ge (tgt := 27) hx hb dX4_takesBack_6 (by decide) (fun c3001 => ?_) (fun c3001 => ?_)
      · rw [if_pos c3001] at hR hF
        subst hR
        exact krV hx hb hr hlk hP hD hS dX4_takesBack_27 rfl
      · rw [if_neg c3001] at hR hF
        refine lv_aload_n hx hb dX4_takesBack_9 rfl (lv_at hl 1 rfl) ?_
        refine va_get (D := D) (ci := 4) (v := .ref (am 1)) (C := RX4) (T := TX4) (N := 8) hx hb hts hinX4 hown hK hP 0 rfl rfl 0 (by decide) q1 (fun _ h9 => h9) rfl dX4_takesBack_10 ?_
        refine lv_iload_n hx hb dX4_takesBack_13 rfl (lv_at hl 0 rfl) ?_
        refine lv_aload_n hx hb dX4_takesBack_14 rfl (lv_at hl 1 rfl) ?_
        refine va_get (D := D) (ci := 4) (v := .ref (am 3)) (C := RX4) (T := TX4) (N := 8) hx hb hts hinX4 hown hK hP 0 rfl rfl 2 (by decide) q2 (fun _ h9 => h9) rfl dX4_takesBack_15 ?_
        refine lv_iload_n hx hb dX4_takesBack_18 rfl (lv_at hl 0 rfl) ?_
        obtain ⟨hi3002, hF⟩ := hF
        refine va_iald hx hb hK hP 3 0 rfl rfl hi3002 dX4_takesBack_19 ?_
        obtain ⟨hi3003, hF⟩ := hF
        refine va_iast hx hb hK hP hD hS 1 0 rfl rfl hi3003 dX4_takesBack_20 (fun H locs hP hD hS => ?_)
        have hP : va_P D vwCl (mdW cI am (va_up M.1 0 (upd (M.1 0) (y1).toNatClampNeg ((M.1 2) (y1).toNatClampNeg)), M.2)) H := hP
        have hD : va_D A (mdW cI am (va_up M.1 0 (upd (M.1 0) (y1).toNatClampNeg ((M.1 2) (y1).toNatClampNeg)), M.2)) := hD
        generalize eg3004 : upd (M.1 0) (y1).toNatClampNeg ((M.1 2) (y1).toNatClampNeg) = g3004 at hR hP hD hF
        replace hR := bnd_e hR
        replace hF := bnd_p hF
        refine lv_iinc (v := y1 + 1) (lv' := [(1, .int (y1 + 1)), (0, .ref (am 0))]) hx hb dX4_takesBack_21 hl (k := 0) rfl rfl (by decide) rfl (fun ls hl => ?_)
        refine lv_goto (tgt := 2) hx hb dX4_takesBack_24 (by decide) ?_
        exact ih2 (y1 + 1) (va_up M.1 0 g3004, M.2) _ _ ls hR hF hP hD hS (lv_sub hl [0, 1] rfl)
  exact loop2 kfu 0 M _ _ ls hR hF hP hD hS (lv_sub hl [0, 1] rfl)

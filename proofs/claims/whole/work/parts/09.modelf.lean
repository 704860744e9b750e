/-! the model, whole: printed by my own program (gen.py) out of the listing -/
theorem hdX4_refused : yX4_refused.cls = RX4 ∧ yX4_refused.cls ≠ "java/lang/invoke/MethodHandle" ∧ yX4_refused.cls ≠ "java/lang/invoke/VarHandle" ∧ (parseMethodDescriptor yX4_refused.desc).map (fun d => d.parameters.length) = some 1 := by decide +kernel
def fx4_refused (M : Md) (x1 : Int32) : Int32 × (Md) := (if x1 ≤ 0 then (0, (sset M.1 4 1 x1, M.2)) else (1, (sset M.1 4 1 x1, M.2)))
set_option maxHeartbeats 4000000 in
set_option maxRecDepth 100000 in
theorem cx4_refused {l : Launch} {D : va_G} {cI cB cS cJ : ClassId} {K : State → Prop} (E : kE D cI cB cS cJ K) (am : Nat → Nat) (M : Md) (x1 : Int32) : kI l D K yX4_refused wsX4_refused 0 0 [.ref (am 0), .int x1] (mdW cI am M) (fx4_refused M x1).1 (mdW cI am ((fx4_refused M x1).2)) := by
  refine kI_of (own := RX4) (cc := cX4_refused) (maxL := 2) (tys := kty cI cB cS cJ) (fun U h => (E.2 U h).1) (by decide) rfl rfl (Nat.le_of_ble_eq_true rfl) ?_
  intro p e s m below meth c A ls hx hb hr hml hts hown hlk hKs hK hP hD hA hS hl
  have hl : lv_has ls 2 [(0, .ref (am 0)), (1, .int x1)] := hl
  have hX : CallFix p m c cX4_refused 2 s _ wsX4_refused RX4 := ⟨hx, hb, hml, hown, hts⟩
  have hinX4 : ∀ w ∈ wsX40, w ∈ wsX4_refused := fun w h => List.mem_cons_of_mem _ (List.mem_append_right _ h)
  have q1 := hts (.fieldLink RX4 22 "LabelStationModel" "refusal" "I") (List.mem_of_getElem? (i := 1) rfl)
  generalize hR : fx4_refused M x1 = R
  rw [fx4_refused] at hR
  refine lv_aload_n hx hb dX4_refused_0 rfl (lv_at hl 0 rfl) ?_
  refine lv_iload_n hx hb dX4_refused_1 rfl (lv_at hl 1 rfl) ?_
  refine va_put (D := D) (ci := 4) (v := .int x1) (ty := .int) (C := RX4) (T := TX4) (N := 8) hx hb hts hinX4 tyX4 tyX4_ok nmX4 hown hK hP hD hS 0 rfl rfl 4 (by decide) q1 (fun _ h9 => h9) rfl (by decide +kernel) rfl rfl (Nat.le_of_ble_eq_true rfl) dX4_refused_2 (fun H locs hP hD hS => ?_)
  have hP : va_P D vwCl (mdW cI am (sset M.1 4 1 x1, M.2)) H := hP
  have hD : va_D A (mdW cI am (sset M.1 4 1 x1, M.2)) := hD
  refine lv_iload_n hx hb dX4_refused_5 rfl (lv_at hl 1 rfl) ?_
  refine lv_if_le (tgt := 13) hx hb dX4_refused_6 (by decide) (fun c1 => ?_) (fun c1 => ?_)
  · rw [if_pos c1] at hR
    refine lv_iconst (v := 0) hx hb dX4_refused_13 (by decide) ?_
    subst hR
    exact krZ hx hb hr hlk hP hD hS dX4_refused_14 (by decide) rfl rfl
  · rw [if_neg c1] at hR
    refine lv_iconst (v := 1) hx hb dX4_refused_9 (by decide) ?_
    refine lv_goto (tgt := 14) hx hb dX4_refused_10 (by decide) ?_
    subst hR
    exact krZ hx hb hr hlk hP hD hS dX4_refused_14 (by decide) rfl rfl

theorem hdX4_thrown : yX4_thrown.cls = RX4 ∧ yX4_thrown.cls ≠ "java/lang/invoke/MethodHandle" ∧ yX4_thrown.cls ≠ "java/lang/invoke/VarHandle" ∧ (parseMethodDescriptor yX4_thrown.desc).map (fun d => d.parameters.length) = some 0 := by decide +kernel
def fx4_thrown (M : Md) : Int32 := M.1 4 1
set_option maxHeartbeats 4000000 in
set_option maxRecDepth 100000 in
theorem cx4_thrown {l : Launch} {D : va_G} {cI cB cS cJ : ClassId} {K : State → Prop} (E : kE D cI cB cS cJ K) (am : Nat → Nat) (M : Md) : kI l D K yX4_thrown wsX4_thrown 0 0 [.ref (am 0)] (mdW cI am M) (fx4_thrown M) (mdW cI am M) := by
  refine kI_of (own := RX4) (cc := cX4_thrown) (maxL := 1) (tys := kty cI cB cS cJ) (fun U h => (E.2 U h).1) (by decide) rfl rfl (Nat.le_of_ble_eq_true rfl) ?_
  intro p e s m below meth c A ls hx hb hr hml hts hown hlk hKs hK hP hD hA hS hl
  have hl : lv_has ls 1 [(0, .ref (am 0))] := hl
  have hX : CallFix p m c cX4_thrown 1 s _ wsX4_thrown RX4 := ⟨hx, hb, hml, hown, hts⟩
  have hinX4 : ∀ w ∈ wsX40, w ∈ wsX4_thrown := fun w h => List.mem_cons_of_mem _ (List.mem_append_right _ h)
  have q1 := hts (.fieldLink RX4 22 "LabelStationModel" "refusal" "I") (List.mem_of_getElem? (i := 1) rfl)
  generalize hR : fx4_thrown M = R
  rw [fx4_thrown] at hR
  refine lv_aload_n hx hb dX4_thrown_0 rfl (lv_at hl 0 rfl) ?_
  refine va_get (D := D) (ci := 4) (v := .int (M.1 4 1)) (C := RX4) (T := TX4) (N := 8) hx hb hts hinX4 hown hK hP 0 rfl rfl 4 (by decide) q1 (fun _ h9 => h9) rfl dX4_thrown_1 ?_
  subst hR
  exact krI hx hb hr hlk hP hD hS dX4_thrown_4 rfl rfl

theorem hdX4_saves : yX4_saves.cls = RX4 ∧ yX4_saves.cls ≠ "java/lang/invoke/MethodHandle" ∧ yX4_saves.cls ≠ "java/lang/invoke/VarHandle" ∧ (parseMethodDescriptor yX4_saves.desc).map (fun d => d.parameters.length) = some 0 := by decide +kernel
def fx4_saves_L51 : Nat → Int32 → Md → Md
  | 0, _, M => M
  | n51 + 1, y1, M => (if 1203 ≤ y1 then (sset M.1 4 0 ((M.1 4 0) + 1), M.2) else (bnd (upd (M.1 1) ((1203 * (M.1 4 0)) + y1).toNatClampNeg ((M.1 0) (y1).toNatClampNeg)) (fun g6 => fx4_saves_L51 n51 (y1 + 1) (va_up M.1 1 g6, M.2))))
def sx4_saves_L51 : Nat → Int32 → Md → Prop
  | 0, _, _ => False
  | n51 + 1, y1, M => (if 1203 ≤ y1 then True else (vp_in (y1) 1203 ∧ (vp_in ((1203 * (M.1 4 0)) + y1) 4812 ∧ (bnd (upd (M.1 1) ((1203 * (M.1 4 0)) + y1).toNatClampNeg ((M.1 0) (y1).toNatClampNeg)) (fun g6 => sx4_saves_L51 n51 (y1 + 1) (va_up M.1 1 g6, M.2))))))
def fx4_saves_L10 : Nat → Int32 → Md → Md
  | 0, _, M => M
  | n10 + 1, y1, M => (if 3609 ≤ y1 then fx4_saves_L51 kfu 0 (sset M.1 4 0 ((M.1 4 0) - 1), M.2) else (bnd (upd (M.1 1) (y1).toNatClampNeg ((M.1 1) (y1 + 1203).toNatClampNeg)) (fun g9 => fx4_saves_L10 n10 (y1 + 1) (va_up M.1 1 g9, M.2))))
def sx4_saves_L10 : Nat → Int32 → Md → Prop
  | 0, _, _ => False
  | n10 + 1, y1, M => (if 3609 ≤ y1 then sx4_saves_L51 kfu 0 (sset M.1 4 0 ((M.1 4 0) - 1), M.2) else (vp_in (y1 + 1203) 4812 ∧ (vp_in (y1) 4812 ∧ (bnd (upd (M.1 1) (y1).toNatClampNeg ((M.1 1) (y1 + 1203).toNatClampNeg)) (fun g9 => sx4_saves_L10 n10 (y1 + 1) (va_up M.1 1 g9, M.2))))))
def fx4_saves_L51 : Nat → Int32 → Md → Md
  | 0, _, M => M
  | n51 + 1, y1, M => (if 1203 ≤ y1 then (sset M.1 4 0 ((M.1 4 0) + 1), M.2) else (bnd (upd (M.1 1) ((1203 * (M.1 4 0)) + y1).toNatClampNeg ((M.1 0) (y1).toNatClampNeg)) (fun g13 => fx4_saves_L51 n51 (y1 + 1) (va_up M.1 1 g13, M.2))))
def sx4_saves_L51 : Nat → Int32 → Md → Prop
  | 0, _, _ => False
  | n51 + 1, y1, M => (if 1203 ≤ y1 then True else (vp_in (y1) 1203 ∧ (vp_in ((1203 * (M.1 4 0)) + y1) 4812 ∧ (bnd (upd (M.1 1) ((1203 * (M.1 4 0)) + y1).toNatClampNeg ((M.1 0) (y1).toNatClampNeg)) (fun g13 => sx4_saves_L51 n51 (y1 + 1) (va_up M.1 1 g13, M.2))))))
def fx4_saves (M : Md) : Md := (if (M.1 4 0) = 4 then fx4_saves_L10 kfu 0 M else fx4_saves_L51 kfu 0 M)
def sx4_saves (M : Md) : Prop := (if (M.1 4 0) = 4 then sx4_saves_L10 kfu 0 M else sx4_saves_L51 kfu 0 M)
set_option maxHeartbeats 4000000 in
set_option maxRecDepth 100000 in
theorem cx4_saves {l : Launch} {D : va_G} {cI cB cS cJ : ClassId} {K : State → Prop} (E : kE D cI cB cS cJ K) (am : Nat → Nat) (M : Md) (hF : sx4_saves M) : kV l D K yX4_saves wsX4_saves 0 0 [.ref (am 0)] (mdW cI am M)  (mdW cI am (fx4_saves M)) := by
  refine kV_of (own := RX4) (cc := cX4_saves) (maxL := 2) (tys := kty cI cB cS cJ) (fun U h => (E.2 U h).1) (by decide) rfl rfl (Nat.le_of_ble_eq_true rfl) ?_
  intro p e s m below meth c A ls hx hb hr hml hts hown hlk hKs hK hP hD hA hS hl
  have hl : lv_has ls 2 [(0, .ref (am 0))] := hl
  have hX : CallFix p m c cX4_saves 2 s _ wsX4_saves RX4 := ⟨hx, hb, hml, hown, hts⟩
  have hinX4 : ∀ w ∈ wsX40, w ∈ wsX4_saves := fun w h => List.mem_cons_of_mem _ (List.mem_append_right _ h)
  have q1 := hts (.fieldLink RX4 26 "LabelStationModel" "saved" "I") (List.mem_of_getElem? (i := 1) rfl)
  have q2 := hts (.fieldLink RX4 13 "LabelStationModel" "past" "[I") (List.mem_of_getElem? (i := 2) rfl)
  have q3 := hts (.fieldLink RX4 7 "LabelStationModel" "now" "[I") (List.mem_of_getElem? (i := 3) rfl)
  generalize hR : fx4_saves M = R
  rw [fx4_saves] at hR
  rw [sx4_saves] at hF
  refine lv_aload_n hx hb dX4_saves_0 rfl (lv_at hl 0 rfl) ?_
  refine va_get (D := D) (ci := 4) (v := .int (M.1 4 0)) (C := RX4) (T := TX4) (N := 8) hx hb hts hinX4 hown hK hP 0 rfl rfl 3 (by decide) q1 (fun _ h9 => h9) rfl dX4_saves_1 ?_
  refine lv_iconst (v := 4) hx hb dX4_saves_4 (by decide) ?_
  refine lv_icmp_ne (tgt := 49) hx hb dX4_saves_5 (by decide) (fun c1 => ?_) (fun c1 => ?_)
  · rw [if_neg c1] at hR hF
    refine lv_iconst (v := 0) hx hb dX4_saves_49 (by decide) ?_
    refine lv_istore_n (lv' := [(1, .int 0), (0, .ref (am 0))]) hx hb dX4_saves_50 rfl hl (by decide) rfl (fun ls hl => ?_)
    have loop51 : ∀ (n51 : Nat) (y1 : Int32) (M : Md) (H : Heap) (locs : List Loc) (ls : Array Slot), fx4_saves_L51 n51 y1 M = R → sx4_saves_L51 n51 y1 M → va_P D vwCl (mdW cI am M) H → va_D A (mdW cI am M) → va_S A s.heap H locs → lv_has ls 2 [(1, .int y1), (0, .ref (am 0))] → W p l e (kRm 0 0) s m ([.ref (am 0)] : List Value).toArray below meth c H locs 0 0 (kQV D below (mdW cI am R) A ([.ref (am 0)] : List Value).toArray s) (F0 m 51 ls []) := by
      intro n51
      induction n51 with
      | zero => intro y1 M H locs ls hR hF; exact hF.elim
      | succ n51 ih51 =>
        intro y1 M H locs ls hR hF hP hD hS hl
        rw [fx4_saves_L51] at hR
        rw [sx4_saves_L51] at hF
        refine lv_iload_n hx hb dX4_saves_51 rfl (lv_at hl 0 rfl) ?_
        refine lv_sipush (v := 1203) hx hb dX4_saves_52 (by decide) ?_
        refine lv_icmp_ge (tgt := 85) hx hb dX4_saves_55 (by decide) (fun c10 => ?_) (fun c10 => ?_)
        · rw [if_pos c10] at hR hF
          refine lv_aload_n hx hb dX4_saves_85 rfl (lv_at hl 1 rfl) ?_
          refine lv_dup hx hb dX4_saves_86 rfl ?_
          refine va_get (D := D) (ci := 4) (v := .int (M.1 4 0)) (C := RX4) (T := TX4) (N := 8) hx hb hts hinX4 hown hK hP 0 rfl rfl 3 (by decide) q1 (fun _ h9 => h9) rfl dX4_saves_87 ?_
          refine lv_iconst (v := 1) hx hb dX4_saves_90 (by decide) ?_
          refine lv_iadd hx hb dX4_saves_91 ?_
          refine va_put (D := D) (ci := 4) (v := .int ((M.1 4 0) + 1)) (ty := .int) (C := RX4) (T := TX4) (N := 8) hx hb hts hinX4 tyX4 tyX4_ok nmX4 hown hK hP hD hS 0 rfl rfl 3 (by decide) q1 (fun _ h9 => h9) rfl (by decide +kernel) rfl rfl (Nat.le_of_ble_eq_true rfl) dX4_saves_92 (fun H locs hP hD hS => ?_)
          have hP : va_P D vwCl (mdW cI am (sset M.1 4 0 ((M.1 4 0) + 1), M.2)) H := hP
          have hD : va_D A (mdW cI am (sset M.1 4 0 ((M.1 4 0) + 1), M.2)) := hD
          subst hR
          exact krV hx hb hr hlk hP hD hS dX4_saves_95 rfl
        · rw [if_neg c10] at hR hF
          refine lv_aload_n hx hb dX4_saves_58 rfl (lv_at hl 1 rfl) ?_
          refine va_get (D := D) (ci := 4) (v := .ref (am 2)) (C := RX4) (T := TX4) (N := 8) hx hb hts hinX4 hown hK hP 0 rfl rfl 1 (by decide) q2 (fun _ h9 => h9) rfl dX4_saves_59 ?_
          refine lv_sipush (v := 1203) hx hb dX4_saves_62 (by decide) ?_
          refine lv_aload_n hx hb dX4_saves_65 rfl (lv_at hl 1 rfl) ?_
          refine va_get (D := D) (ci := 4) (v := .int (M.1 4 0)) (C := RX4) (T := TX4) (N := 8) hx hb hts hinX4 hown hK hP 0 rfl rfl 3 (by decide) q1 (fun _ h9 => h9) rfl dX4_saves_66 ?_
          refine lv_imul hx hb dX4_saves_69 ?_
          refine lv_iload_n hx hb dX4_saves_70 rfl (lv_at hl 0 rfl) ?_
          refine lv_iadd hx hb dX4_saves_71 ?_
          refine lv_aload_n hx hb dX4_saves_72 rfl (lv_at hl 1 rfl) ?_
          refine va_get (D := D) (ci := 4) (v := .ref (am 1)) (C := RX4) (T := TX4) (N := 8) hx hb hts hinX4 hown hK hP 0 rfl rfl 0 (by decide) q3 (fun _ h9 => h9) rfl dX4_saves_73 ?_
          refine lv_iload_n hx hb dX4_saves_76 rfl (lv_at hl 0 rfl) ?_
          obtain ⟨hi11, hF⟩ := hF
          refine va_iald hx hb hK hP 1 0 rfl rfl hi11 dX4_saves_77 ?_
          obtain ⟨hi12, hF⟩ := hF
          refine va_iast hx hb hK hP hD hS 2 0 rfl rfl hi12 dX4_saves_78 (fun H locs hP hD hS => ?_)
          have hP : va_P D vwCl (mdW cI am (va_up M.1 1 (upd (M.1 1) ((1203 * (M.1 4 0)) + y1).toNatClampNeg ((M.1 0) (y1).toNatClampNeg)), M.2)) H := hP
          have hD : va_D A (mdW cI am (va_up M.1 1 (upd (M.1 1) ((1203 * (M.1 4 0)) + y1).toNatClampNeg ((M.1 0) (y1).toNatClampNeg)), M.2)) := hD
          generalize eg13 : upd (M.1 1) ((1203 * (M.1 4 0)) + y1).toNatClampNeg ((M.1 0) (y1).toNatClampNeg) = g13 at hR hP hD hF
          replace hR := bnd_e hR
          replace hF := bnd_p hF
          refine lv_iinc (v := y1 + 1) (lv' := [(1, .int (y1 + 1)), (0, .ref (am 0))]) hx hb dX4_saves_79 hl (k := 0) rfl rfl (by decide) rfl (fun ls hl => ?_)
          refine lv_goto (tgt := 51) hx hb dX4_saves_82 (by decide) ?_
          exact ih51 (y1 + 1) (va_up M.1 1 g13, M.2) _ _ ls hR hF hP hD hS (lv_sub hl [0, 1] rfl)
    exact loop51 kfu 0 M _ _ ls hR hF hP hD hS (lv_sub hl [0, 1] rfl)
  · rw [if_pos c1] at hR hF
    refine lv_iconst (v := 0) hx hb dX4_saves_8 (by decide) ?_
    refine lv_istore_n (lv' := [(1, .int 0), (0, .ref (am 0))]) hx hb dX4_saves_9 rfl hl (by decide) rfl (fun ls hl => ?_)
    have loop10 : ∀ (n10 : Nat) (y1 : Int32) (M : Md) (H : Heap) (locs : List Loc) (ls : Array Slot), fx4_saves_L10 n10 y1 M = R → sx4_saves_L10 n10 y1 M → va_P D vwCl (mdW cI am M) H → va_D A (mdW cI am M) → va_S A s.heap H locs → lv_has ls 2 [(1, .int y1), (0, .ref (am 0))] → W p l e (kRm 0 0) s m ([.ref (am 0)] : List Value).toArray below meth c H locs 0 0 (kQV D below (mdW cI am R) A ([.ref (am 0)] : List Value).toArray s) (F0 m 10 ls []) := by
      intro n10
      induction n10 with
      | zero => intro y1 M H locs ls hR hF; exact hF.elim
      | succ n10 ih10 =>
        intro y1 M H locs ls hR hF hP hD hS hl
        rw [fx4_saves_L10] at hR
        rw [sx4_saves_L10] at hF
        refine lv_iload_n hx hb dX4_saves_10 rfl (lv_at hl 0 rfl) ?_
        refine lv_sipush (v := 3609) hx hb dX4_saves_11 (by decide) ?_
        refine lv_icmp_ge (tgt := 39) hx hb dX4_saves_14 (by decide) (fun c2 => ?_) (fun c2 => ?_)
        · rw [if_pos c2] at hR hF
          refine lv_aload_n hx hb dX4_saves_39 rfl (lv_at hl 1 rfl) ?_
          refine lv_dup hx hb dX4_saves_40 rfl ?_
          refine va_get (D := D) (ci := 4) (v := .int (M.1 4 0)) (C := RX4) (T := TX4) (N := 8) hx hb hts hinX4 hown hK hP 0 rfl rfl 3 (by decide) q1 (fun _ h9 => h9) rfl dX4_saves_41 ?_
          refine lv_iconst (v := 1) hx hb dX4_saves_44 (by decide) ?_
          refine lv_isub hx hb dX4_saves_45 ?_
          refine va_put (D := D) (ci := 4) (v := .int ((M.1 4 0) - 1)) (ty := .int) (C := RX4) (T := TX4) (N := 8) hx hb hts hinX4 tyX4 tyX4_ok nmX4 hown hK hP hD hS 0 rfl rfl 3 (by decide) q1 (fun _ h9 => h9) rfl (by decide +kernel) rfl rfl (Nat.le_of_ble_eq_true rfl) dX4_saves_46 (fun H locs hP hD hS => ?_)
          have hP : va_P D vwCl (mdW cI am (sset M.1 4 0 ((M.1 4 0) - 1), M.2)) H := hP
          have hD : va_D A (mdW cI am (sset M.1 4 0 ((M.1 4 0) - 1), M.2)) := hD
          refine lv_iconst (v := 0) hx hb dX4_saves_49 (by decide) ?_
          refine lv_istore_n (lv' := [(1, .int 0), (0, .ref (am 0))]) hx hb dX4_saves_50 rfl hl (by decide) rfl (fun ls hl => ?_)
          have loop51 : ∀ (n51 : Nat) (y1 : Int32) (M : Md) (H : Heap) (locs : List Loc) (ls : Array Slot), fx4_saves_L51 n51 y1 M = R → sx4_saves_L51 n51 y1 M → va_P D vwCl (mdW cI am M) H → va_D A (mdW cI am M) → va_S A s.heap H locs → lv_has ls 2 [(1, .int y1), (0, .ref (am 0))] → W p l e (kRm 0 0) s m ([.ref (am 0)] : List Value).toArray below meth c H locs 0 0 (kQV D below (mdW cI am R) A ([.ref (am 0)] : List Value).toArray s) (F0 m 51 ls []) := by
            intro n51
            induction n51 with
            | zero => intro y1 M H locs ls hR hF; exact hF.elim
            | succ n51 ih51 =>
              intro y1 M H locs ls hR hF hP hD hS hl
              rw [fx4_saves_L51] at hR
              rw [sx4_saves_L51] at hF
              refine lv_iload_n hx hb dX4_saves_51 rfl (lv_at hl 0 rfl) ?_
              refine lv_sipush (v := 1203) hx hb dX4_saves_52 (by decide) ?_
              refine lv_icmp_ge (tgt := 85) hx hb dX4_saves_55 (by decide) (fun c3 => ?_) (fun c3 => ?_)
              · rw [if_pos c3] at hR hF
                refine lv_aload_n hx hb dX4_saves_85 rfl (lv_at hl 1 rfl) ?_
                refine lv_dup hx hb dX4_saves_86 rfl ?_
                refine va_get (D := D) (ci := 4) (v := .int (M.1 4 0)) (C := RX4) (T := TX4) (N := 8) hx hb hts hinX4 hown hK hP 0 rfl rfl 3 (by decide) q1 (fun _ h9 => h9) rfl dX4_saves_87 ?_
                refine lv_iconst (v := 1) hx hb dX4_saves_90 (by decide) ?_
                refine lv_iadd hx hb dX4_saves_91 ?_
                refine va_put (D := D) (ci := 4) (v := .int ((M.1 4 0) + 1)) (ty := .int) (C := RX4) (T := TX4) (N := 8) hx hb hts hinX4 tyX4 tyX4_ok nmX4 hown hK hP hD hS 0 rfl rfl 3 (by decide) q1 (fun _ h9 => h9) rfl (by decide +kernel) rfl rfl (Nat.le_of_ble_eq_true rfl) dX4_saves_92 (fun H locs hP hD hS => ?_)
                have hP : va_P D vwCl (mdW cI am (sset M.1 4 0 ((M.1 4 0) + 1), M.2)) H := hP
                have hD : va_D A (mdW cI am (sset M.1 4 0 ((M.1 4 0) + 1), M.2)) := hD
                subst hR
                exact krV hx hb hr hlk hP hD hS dX4_saves_95 rfl
              · rw [if_neg c3] at hR hF
                refine lv_aload_n hx hb dX4_saves_58 rfl (lv_at hl 1 rfl) ?_
                refine va_get (D := D) (ci := 4) (v := .ref (am 2)) (C := RX4) (T := TX4) (N := 8) hx hb hts hinX4 hown hK hP 0 rfl rfl 1 (by decide) q2 (fun _ h9 => h9) rfl dX4_saves_59 ?_
                refine lv_sipush (v := 1203) hx hb dX4_saves_62 (by decide) ?_
                refine lv_aload_n hx hb dX4_saves_65 rfl (lv_at hl 1 rfl) ?_
                refine va_get (D := D) (ci := 4) (v := .int (M.1 4 0)) (C := RX4) (T := TX4) (N := 8) hx hb hts hinX4 hown hK hP 0 rfl rfl 3 (by decide) q1 (fun _ h9 => h9) rfl dX4_saves_66 ?_
                refine lv_imul hx hb dX4_saves_69 ?_
                refine lv_iload_n hx hb dX4_saves_70 rfl (lv_at hl 0 rfl) ?_
                refine lv_iadd hx hb dX4_saves_71 ?_
                refine lv_aload_n hx hb dX4_saves_72 rfl (lv_at hl 1 rfl) ?_
                refine va_get (D := D) (ci := 4) (v := .ref (am 1)) (C := RX4) (T := TX4) (N := 8) hx hb hts hinX4 hown hK hP 0 rfl rfl 0 (by decide) q3 (fun _ h9 => h9) rfl dX4_saves_73 ?_
                refine lv_iload_n hx hb dX4_saves_76 rfl (lv_at hl 0 rfl) ?_
                obtain ⟨hi4, hF⟩ := hF
                refine va_iald hx hb hK hP 1 0 rfl rfl hi4 dX4_saves_77 ?_
                obtain ⟨hi5, hF⟩ := hF
                refine va_iast hx hb hK hP hD hS 2 0 rfl rfl hi5 dX4_saves_78 (fun H locs hP hD hS => ?_)
                have hP : va_P D vwCl (mdW cI am (va_up M.1 1 (upd (M.1 1) ((1203 * (M.1 4 0)) + y1).toNatClampNeg ((M.1 0) (y1).toNatClampNeg)), M.2)) H := hP
                have hD : va_D A (mdW cI am (va_up M.1 1 (upd (M.1 1) ((1203 * (M.1 4 0)) + y1).toNatClampNeg ((M.1 0) (y1).toNatClampNeg)), M.2)) := hD
                generalize eg6 : upd (M.1 1) ((1203 * (M.1 4 0)) + y1).toNatClampNeg ((M.1 0) (y1).toNatClampNeg) = g6 at hR hP hD hF
                replace hR := bnd_e hR
                replace hF := bnd_p hF
                refine lv_iinc (v := y1 + 1) (lv' := [(1, .int (y1 + 1)), (0, .ref (am 0))]) hx hb dX4_saves_79 hl (k := 0) rfl rfl (by decide) rfl (fun ls hl => ?_)
                refine lv_goto (tgt := 51) hx hb dX4_saves_82 (by decide) ?_
                exact ih51 (y1 + 1) (va_up M.1 1 g6, M.2) _ _ ls hR hF hP hD hS (lv_sub hl [0, 1] rfl)
          exact loop51 kfu 0 (sset M.1 4 0 ((M.1 4 0) - 1), M.2) _ _ ls hR hF hP hD hS (lv_sub hl [0, 1] rfl)
        · rw [if_neg c2] at hR hF
          refine lv_aload_n hx hb dX4_saves_17 rfl (lv_at hl 1 rfl) ?_
          refine va_get (D := D) (ci := 4) (v := .ref (am 2)) (C := RX4) (T := TX4) (N := 8) hx hb hts hinX4 hown hK hP 0 rfl rfl 1 (by decide) q2 (fun _ h9 => h9) rfl dX4_saves_18 ?_
          refine lv_iload_n hx hb dX4_saves_21 rfl (lv_at hl 0 rfl) ?_
          refine lv_aload_n hx hb dX4_saves_22 rfl (lv_at hl 1 rfl) ?_
          refine va_get (D := D) (ci := 4) (v := .ref (am 2)) (C := RX4) (T := TX4) (N := 8) hx hb hts hinX4 hown hK hP 0 rfl rfl 1 (by decide) q2 (fun _ h9 => h9) rfl dX4_saves_23 ?_
          refine lv_iload_n hx hb dX4_saves_26 rfl (lv_at hl 0 rfl) ?_
          refine lv_sipush (v := 1203) hx hb dX4_saves_27 (by decide) ?_
          refine lv_iadd hx hb dX4_saves_30 ?_
          obtain ⟨hi7, hF⟩ := hF
          refine va_iald hx hb hK hP 2 0 rfl rfl hi7 dX4_saves_31 ?_
          obtain ⟨hi8, hF⟩ := hF
          refine va_iast hx hb hK hP hD hS 2 0 rfl rfl hi8 dX4_saves_32 (fun H locs hP hD hS => ?_)
          have hP : va_P D vwCl (mdW cI am (va_up M.1 1 (upd (M.1 1) (y1).toNatClampNeg ((M.1 1) (y1 + 1203).toNatClampNeg)), M.2)) H := hP
          have hD : va_D A (mdW cI am (va_up M.1 1 (upd (M.1 1) (y1).toNatClampNeg ((M.1 1) (y1 + 1203).toNatClampNeg)), M.2)) := hD
          generalize eg9 : upd (M.1 1) (y1).toNatClampNeg ((M.1 1) (y1 + 1203).toNatClampNeg) = g9 at hR hP hD hF
          replace hR := bnd_e hR
          replace hF := bnd_p hF
          refine lv_iinc (v := y1 + 1) (lv' := [(1, .int (y1 + 1)), (0, .ref (am 0))]) hx hb dX4_saves_33 hl (k := 0) rfl rfl (by decide) rfl (fun ls hl => ?_)
          refine lv_goto (tgt := 10) hx hb dX4_saves_36 (by decide) ?_
          exact ih10 (y1 + 1) (va_up M.1 1 g9, M.2) _ _ ls hR hF hP hD hS (lv_sub hl [0, 1] rfl)
    exact loop10 kfu 0 M _ _ ls hR hF hP hD hS (lv_sub hl [0, 1] rfl)

theorem hdX4_laysAside : yX4_laysAside.cls = RX4 ∧ yX4_laysAside.cls ≠ "java/lang/invoke/MethodHandle" ∧ yX4_laysAside.cls ≠ "java/lang/invoke/VarHandle" ∧ (parseMethodDescriptor yX4_laysAside.desc).map (fun d => d.parameters.length) = some 0 := by decide +kernel
def fx4_laysAside_L2 : Nat → Int32 → Md → Md
  | 0, _, M => M
  | n2 + 1, y1, M => (if 1203 ≤ y1 then M else (bnd (upd (M.1 2) (y1).toNatClampNeg ((M.1 0) (y1).toNatClampNeg)) (fun g4 => fx4_laysAside_L2 n2 (y1 + 1) (va_up M.1 2 g4, M.2))))
def sx4_laysAside_L2 : Nat → Int32 → Md → Prop
  | 0, _, _ => False
  | n2 + 1, y1, M => (if 1203 ≤ y1 then True else (vp_in (y1) 1203 ∧ (vp_in (y1) 1203 ∧ (bnd (upd (M.1 2) (y1).toNatClampNeg ((M.1 0) (y1).toNatClampNeg)) (fun g4 => sx4_laysAside_L2 n2 (y1 + 1) (va_up M.1 2 g4, M.2))))))
def fx4_laysAside (M : Md) : Md := fx4_laysAside_L2 kfu 0 M
def sx4_laysAside (M : Md) : Prop := sx4_laysAside_L2 kfu 0 M
set_option maxHeartbeats 4000000 in
set_option maxRecDepth 100000 in
theorem cx4_laysAside {l : Launch} {D : va_G} {cI cB cS cJ : ClassId} {K : State → Prop} (E : kE D cI cB cS cJ K) (am : Nat → Nat) (M : Md) (hF : sx4_laysAside M) : kV l D K yX4_laysAside wsX4_laysAside 0 0 [.ref (am 0)] (mdW cI am M)  (mdW cI am (fx4_laysAside M)) := by
  refine kV_of (own := RX4) (cc := cX4_laysAside) (maxL := 2) (tys := kty cI cB cS cJ) (fun U h => (E.2 U h).1) (by decide) rfl rfl (Nat.le_of_ble_eq_true rfl) ?_
  intro p e s m below meth c A ls hx hb hr hml hts hown hlk hKs hK hP hD hA hS hl
  have hl : lv_has ls 2 [(0, .ref (am 0))] := hl
  have hX : CallFix p m c cX4_laysAside 2 s _ wsX4_laysAside RX4 := ⟨hx, hb, hml, hown, hts⟩
  have hinX4 : ∀ w ∈ wsX40, w ∈ wsX4_laysAside := fun w h => List.mem_cons_of_mem _ (List.mem_append_right _ h)
  have q1 := hts (.fieldLink RX4 16 "LabelStationModel" "aside" "[I") (List.mem_of_getElem? (i := 1) rfl)
  have q2 := hts (.fieldLink RX4 7 "LabelStationModel" "now" "[I") (List.mem_of_getElem? (i := 2) rfl)
  generalize hR : fx4_laysAside M = R
  rw [fx4_laysAside] at hR
  rw [sx4_laysAside] at hF
  refine lv_iconst (v := 0) hx hb dX4_laysAside_0 (by decide) ?_
  refine lv_istore_n (lv' := [(1, .int 0), (0, .ref (am 0))]) hx hb dX4_laysAside_1 rfl hl (by decide) rfl (fun ls hl => ?_)
  have loop2 : ∀ (n2 : Nat) (y1 : Int32) (M : Md) (H : Heap) (locs : List Loc) (ls : Array Slot), fx4_laysAside_L2 n2 y1 M = R → sx4_laysAside_L2 n2 y1 M → va_P D vwCl (mdW cI am M) H → va_D A (mdW cI am M) → va_S A s.heap H locs → lv_has ls 2 [(1, .int y1), (0, .ref (am 0))] → W p l e (kRm 0 0) s m ([.ref (am 0)] : List Value).toArray below meth c H locs 0 0 (kQV D below (mdW cI am R) A ([.ref (am 0)] : List Value).toArray s) (F0 m 2 ls []) := by
    intro n2
    induction n2 with
    | zero => intro y1 M H locs ls hR hF; exact hF.elim
    | succ n2 ih2 =>
      intro y1 M H locs ls hR hF hP hD hS hl
      rw [fx4_laysAside_L2] at hR
      rw [sx4_laysAside_L2] at hF
      refine lv_iload_n hx hb dX4_laysAside_2 rfl (lv_at hl 0 rfl) ?_
      refine lv_sipush (v := 1203) hx hb dX4_laysAside_3 (by decide) ?_
      refine lv_icmp_ge (tgt := 27) hx hb dX4_laysAside_6 (by decide) (fun c1 => ?_) (fun c1 => ?_)
      · rw [if_pos c1] at hR hF
        subst hR
        exact krV hx hb hr hlk hP hD hS dX4_laysAside_27 rfl
      · rw [if_neg c1] at hR hF
        refine lv_aload_n hx hb dX4_laysAside_9 rfl (lv_at hl 1 rfl) ?_
        refine va_get (D := D) (ci := 4) (v := .ref (am 3)) (C := RX4) (T := TX4) (N := 8) hx hb hts hinX4 hown hK hP 0 rfl rfl 2 (by decide) q1 (fun _ h9 => h9) rfl dX4_laysAside_10 ?_
        refine lv_iload_n hx hb dX4_laysAside_13 rfl (lv_at hl 0 rfl) ?_
        refine lv_aload_n hx hb dX4_laysAside_14 rfl (lv_at hl 1 rfl) ?_
        refine va_get (D := D) (ci := 4) (v := .ref (am 1)) (C := RX4) (T := TX4) (N := 8) hx hb hts hinX4 hown hK hP 0 rfl rfl 0 (by decide) q2 (fun _ h9 => h9) rfl dX4_laysAside_15 ?_
        refine lv_iload_n hx hb dX4_laysAside_18 rfl (lv_at hl 0 rfl) ?_
        obtain ⟨hi2, hF⟩ := hF
        refine va_iald hx hb hK hP 1 0 rfl rfl hi2 dX4_laysAside_19 ?_
        obtain ⟨hi3, hF⟩ := hF
        refine va_iast hx hb hK hP hD hS 3 0 rfl rfl hi3 dX4_laysAside_20 (fun H locs hP hD hS => ?_)
        have hP : va_P D vwCl (mdW cI am (va_up M.1 2 (upd (M.1 2) (y1).toNatClampNeg ((M.1 0) (y1).toNatClampNeg)), M.2)) H := hP
        have hD : va_D A (mdW cI am (va_up M.1 2 (upd (M.1 2) (y1).toNatClampNeg ((M.1 0) (y1).toNatClampNeg)), M.2)) := hD
        generalize eg4 : upd (M.1 2) (y1).toNatClampNeg ((M.1 0) (y1).toNatClampNeg) = g4 at hR hP hD hF
        replace hR := bnd_e hR
        replace hF := bnd_p hF
        refine lv_iinc (v := y1 + 1) (lv' := [(1, .int (y1 + 1)), (0, .ref (am 0))]) hx hb dX4_laysAside_21 hl (k := 0) rfl rfl (by decide) rfl (fun ls hl => ?_)
        refine lv_goto (tgt := 2) hx hb dX4_laysAside_24 (by decide) ?_
        exact ih2 (y1 + 1) (va_up M.1 2 g4, M.2) _ _ ls hR hF hP hD hS (lv_sub hl [0, 1] rfl)
  exact loop2 kfu 0 M _ _ ls hR hF hP hD hS (lv_sub hl [0, 1] rfl)

theorem hdX4_takesBack : yX4_takesBack.cls = RX4 ∧ yX4_takesBack.cls ≠ "java/lang/invoke/MethodHandle" ∧ yX4_takesBack.cls ≠ "java/lang/invoke/VarHandle" ∧ (parseMethodDescriptor yX4_takesBack.desc).map (fun d => d.parameters.length) = some 0 := by decide +kernel
def fx4_takesBack_L2 : Nat → Int32 → Md → Md
  | 0, _, M => M
  | n2 + 1, y1, M => (if 1203 ≤ y1 then M else (bnd (upd (M.1 0) (y1).toNatClampNeg ((M.1 2) (y1).toNatClampNeg)) (fun g4 => fx4_takesBack_L2 n2 (y1 + 1) (va_up M.1 0 g4, M.2))))
def sx4_takesBack_L2 : Nat → Int32 → Md → Prop
  | 0, _, _ => False
  | n2 + 1, y1, M => (if 1203 ≤ y1 then True else (vp_in (y1) 1203 ∧ (vp_in (y1) 1203 ∧ (bnd (upd (M.1 0) (y1).toNatClampNeg ((M.1 2) (y1).toNatClampNeg)) (fun g4 => sx4_takesBack_L2 n2 (y1 + 1) (va_up M.1 0 g4, M.2))))))
def fx4_takesBack (M : Md) : Md := fx4_takesBack_L2 kfu 0 M
def sx4_takesBack (M : Md) : Prop := sx4_takesBack_L2 kfu 0 M
set_option maxHeartbeats 4000000 in
set_option maxRecDepth 100000 in
theorem cx4_takesBack {l : Launch} {D : va_G} {cI cB cS cJ : ClassId} {K : State → Prop} (E : kE D cI cB cS cJ K) (am : Nat → Nat) (M : Md) (hF : sx4_takesBack M) : kV l D K yX4_takesBack wsX4_takesBack 0 0 [.ref (am 0)] (mdW cI am M)  (mdW cI am (fx4_takesBack M)) := by
  refine kV_of (own := RX4) (cc := cX4_takesBack) (maxL := 2) (tys := kty cI cB cS cJ) (fun U h => (E.2 U h).1) (by decide) rfl rfl (Nat.le_of_ble_eq_true rfl) ?_
  intro p e s m below meth c A ls hx hb hr hml hts hown hlk hKs hK hP hD hA hS hl
  have hl : lv_has ls 2 [(0, .ref (am 0))] := hl
  have hX : CallFix p m c cX4_takesBack 2 s _ wsX4_takesBack RX4 := ⟨hx, hb, hml, hown, hts⟩
  have hinX4 : ∀ w ∈ wsX40, w ∈ wsX4_takesBack := fun w h => List.mem_cons_of_mem _ (List.mem_append_right _ h)
  have q1 := hts (.fieldLink RX4 7 "LabelStationModel" "now" "[I") (List.mem_of_getElem? (i := 1) rfl)
  have q2 := hts (.fieldLink RX4 16 "LabelStationModel" "aside" "[I") (List.mem_of_getElem? (i := 2) rfl)
  generalize hR : fx4_takesBack M = R
  rw [fx4_takesBack] at hR
  rw [sx4_takesBack] at hF
  refine lv_iconst (v := 0) hx hb dX4_takesBack_0 (by decide) ?_
  refine lv_istore_n (lv' := [(1, .int 0), (0, .ref (am 0))]) hx hb dX4_takesBack_1 rfl hl (by decide) rfl (fun ls hl => ?_)
  have loop2 : ∀ (n2 : Nat) (y1 : Int32) (M : Md) (H : Heap) (locs : List Loc) (ls : Array Slot), fx4_takesBack_L2 n2 y1 M = R → sx4_takesBack_L2 n2 y1 M → va_P D vwCl (mdW cI am M) H → va_D A (mdW cI am M) → va_S A s.heap H locs → lv_has ls 2 [(1, .int y1), (0, .ref (am 0))] → W p l e (kRm 0 0) s m ([.ref (am 0)] : List Value).toArray below meth c H locs 0 0 (kQV D below (mdW cI am R) A ([.ref (am 0)] : List Value).toArray s) (F0 m 2 ls []) := by
    intro n2
    induction n2 with
    | zero => intro y1 M H locs ls hR hF; exact hF.elim
    | succ n2 ih2 =>
      intro y1 M H locs ls hR hF hP hD hS hl
      rw [fx4_takesBack_L2] at hR
      rw [sx4_takesBack_L2] at hF
      refine lv_iload_n hx hb dX4_takesBack_2 rfl (lv_at hl 0 rfl) ?_
      refine lv_sipush (v := 1203) hx hb dX4_takesBack_3 (by decide) ?_
      refine lv_icmp_ge (tgt := 27) hx hb dX4_takesBack_6 (by decide) (fun c1 => ?_) (fun c1 => ?_)
      · rw [if_pos c1] at hR hF
        subst hR
        exact krV hx hb hr hlk hP hD hS dX4_takesBack_27 rfl
      · rw [if_neg c1] at hR hF
        refine lv_aload_n hx hb dX4_takesBack_9 rfl (lv_at hl 1 rfl) ?_
        refine va_get (D := D) (ci := 4) (v := .ref (am 1)) (C := RX4) (T := TX4) (N := 8) hx hb hts hinX4 hown hK hP 0 rfl rfl 0 (by decide) q1 (fun _ h9 => h9) rfl dX4_takesBack_10 ?_
        refine lv_iload_n hx hb dX4_takesBack_13 rfl (lv_at hl 0 rfl) ?_
        refine lv_aload_n hx hb dX4_takesBack_14 rfl (lv_at hl 1 rfl) ?_
        refine va_get (D := D) (ci := 4) (v := .ref (am 3)) (C := RX4) (T := TX4) (N := 8) hx hb hts hinX4 hown hK hP 0 rfl rfl 2 (by decide) q2 (fun _ h9 => h9) rfl dX4_takesBack_15 ?_
        refine lv_iload_n hx hb dX4_takesBack_18 rfl (lv_at hl 0 rfl) ?_
        obtain ⟨hi2, hF⟩ := hF
        refine va_iald hx hb hK hP 3 0 rfl rfl hi2 dX4_takesBack_19 ?_
        obtain ⟨hi3, hF⟩ := hF
        refine va_iast hx hb hK hP hD hS 1 0 rfl rfl hi3 dX4_takesBack_20 (fun H locs hP hD hS => ?_)
        have hP : va_P D vwCl (mdW cI am (va_up M.1 0 (upd (M.1 0) (y1).toNatClampNeg ((M.1 2) (y1).toNatClampNeg)), M.2)) H := hP
        have hD : va_D A (mdW cI am (va_up M.1 0 (upd (M.1 0) (y1).toNatClampNeg ((M.1 2) (y1).toNatClampNeg)), M.2)) := hD
        generalize eg4 : upd (M.1 0) (y1).toNatClampNeg ((M.1 2) (y1).toNatClampNeg) = g4 at hR hP hD hF
        replace hR := bnd_e hR
        replace hF := bnd_p hF
        refine lv_iinc (v := y1 + 1) (lv' := [(1, .int (y1 + 1)), (0, .ref (am 0))]) hx hb dX4_takesBack_21 hl (k := 0) rfl rfl (by decide) rfl (fun ls hl => ?_)
        refine lv_goto (tgt := 2) hx hb dX4_takesBack_24 (by decide) ?_
        exact ih2 (y1 + 1) (va_up M.1 0 g4, M.2) _ _ ls hR hF hP hD hS (lv_sub hl [0, 1] rfl)
  exact loop2 kfu 0 M _ _ ls hR hF hP hD hS (lv_sub hl [0, 1] rfl)

theorem hdX4_setPlaces : yX4_setPlaces.cls = RX4 ∧ yX4_setPlaces.cls ≠ "java/lang/invoke/MethodHandle" ∧ yX4_setPlaces.cls ≠ "java/lang/invoke/VarHandle" ∧ (parseMethodDescriptor yX4_setPlaces.desc).map (fun d => d.parameters.length) = some 5 := by decide +kernel
def fx4_setPlaces (M : Md) (x1 : Int32) (x2 : Int32) (x3 : Int32) (x4 : Int32) (x5 : Int32) : Int32 × (Md) := (if x1 < 1 then (bnd (fx4_refused M 1) (fun u2 => (if u2.1 = 0 then (bnd (fx4_saves u2.2) (fun M4 => (bnd (upd (M4.1 0) 7 x1) (fun g5 => (bnd (upd g5 8 x2) (fun g6 => (bnd (upd g6 9 x3) (fun g7 => (bnd (upd g7 10 x4) (fun g8 => (bnd (upd g8 11 x5) (fun g9 => ((M4.1 0) 11, (va_up (va_up (va_up (va_up (va_up M4.1 0 g5) 0 g6) 0 g7) 0 g8) 0 g9, M4.2)))))))))))))) else (0, u2.2)))) else (if x2 ≤ x1 then (bnd (fx4_refused M 1) (fun u12 => (if u12.1 = 0 then (bnd (fx4_saves u12.2) (fun M14 => (bnd (upd (M14.1 0) 7 x1) (fun g15 => (bnd (upd g15 8 x2) (fun g16 => (bnd (upd g16 9 x3) (fun g17 => (bnd (upd g17 10 x4) (fun g18 => (bnd (upd g18 11 x5) (fun g19 => ((M14.1 0) 11, (va_up (va_up (va_up (va_up (va_up M14.1 0 g15) 0 g16) 0 g17) 0 g18) 0 g19, M14.2)))))))))))))) else (0, u12.2)))) else (if x3 ≤ x2 then (bnd (fx4_refused M 1) (fun u22 => (if u22.1 = 0 then (bnd (fx4_saves u22.2) (fun M24 => (bnd (upd (M24.1 0) 7 x1) (fun g25 => (bnd (upd g25 8 x2) (fun g26 => (bnd (upd g26 9 x3) (fun g27 => (bnd (upd g27 10 x4) (fun g28 => (bnd (upd g28 11 x5) (fun g29 => ((M24.1 0) 11, (va_up (va_up (va_up (va_up (va_up M24.1 0 g25) 0 g26) 0 g27) 0 g28) 0 g29, M24.2)))))))))))))) else (0, u22.2)))) else (if x4 ≤ x3 then (bnd (fx4_refused M 1) (fun u32 => (if u32.1 = 0 then (bnd (fx4_saves u32.2) (fun M34 => (bnd (upd (M34.1 0) 7 x1) (fun g35 => (bnd (upd g35 8 x2) (fun g36 => (bnd (upd g36 9 x3) (fun g37 => (bnd (upd g37 10 x4) (fun g38 => (bnd (upd g38 11 x5) (fun g39 => ((M34.1 0) 11, (va_up (va_up (va_up (va_up (va_up M34.1 0 g35) 0 g36) 0 g37) 0 g38) 0 g39, M34.2)))))))))))))) else (0, u32.2)))) else (if x5 ≤ x4 then (bnd (fx4_refused M 1) (fun u42 => (if u42.1 = 0 then (bnd (fx4_saves u42.2) (fun M44 => (bnd (upd (M44.1 0) 7 x1) (fun g45 => (bnd (upd g45 8 x2) (fun g46 => (bnd (upd g46 9 x3) (fun g47 => (bnd (upd g47 10 x4) (fun g48 => (bnd (upd g48 11 x5) (fun g49 => ((M44.1 0) 11, (va_up (va_up (va_up (va_up (va_up M44.1 0 g45) 0 g46) 0 g47) 0 g48) 0 g49, M44.2)))))))))))))) else (0, u42.2)))) else (if 1000 < x5 then (bnd (fx4_refused M 1) (fun u52 => (if u52.1 = 0 then (bnd (fx4_saves u52.2) (fun M54 => (bnd (upd (M54.1 0) 7 x1) (fun g55 => (bnd (upd g55 8 x2) (fun g56 => (bnd (upd g56 9 x3) (fun g57 => (bnd (upd g57 10 x4) (fun g58 => (bnd (upd g58 11 x5) (fun g59 => ((M54.1 0) 11, (va_up (va_up (va_up (va_up (va_up M54.1 0 g55) 0 g56) 0 g57) 0 g58) 0 g59, M54.2)))))))))))))) else (0, u52.2)))) else (if 0 < ((M.1 0) 36) then (bnd (fx4_refused M 2) (fun u62 => (if u62.1 = 0 then (bnd (fx4_saves u62.2) (fun M64 => (bnd (upd (M64.1 0) 7 x1) (fun g65 => (bnd (upd g65 8 x2) (fun g66 => (bnd (upd g66 9 x3) (fun g67 => (bnd (upd g67 10 x4) (fun g68 => (bnd (upd g68 11 x5) (fun g69 => ((M64.1 0) 11, (va_up (va_up (va_up (va_up (va_up M64.1 0 g65) 0 g66) 0 g67) 0 g68) 0 g69, M64.2)))))))))))))) else (0, u62.2)))) else (if ((M.1 0) 117) ≤ 0 then (bnd (fx4_refused M 0) (fun u72 => (if u72.1 = 0 then (bnd (fx4_saves u72.2) (fun M74 => (bnd (upd (M74.1 0) 7 x1) (fun g75 => (bnd (upd g75 8 x2) (fun g76 => (bnd (upd g76 9 x3) (fun g77 => (bnd (upd g77 10 x4) (fun g78 => (bnd (upd g78 11 x5) (fun g79 => ((M74.1 0) 11, (va_up (va_up (va_up (va_up (va_up M74.1 0 g75) 0 g76) 0 g77) 0 g78) 0 g79, M74.2)))))))))))))) else (0, u72.2)))) else (bnd (fx4_refused M 2) (fun u81 => (if u81.1 = 0 then (bnd (fx4_saves u81.2) (fun M83 => (bnd (upd (M83.1 0) 7 x1) (fun g84 => (bnd (upd g84 8 x2) (fun g85 => (bnd (upd g85 9 x3) (fun g86 => (bnd (upd g86 10 x4) (fun g87 => (bnd (upd g87 11 x5) (fun g88 => ((M83.1 0) 11, (va_up (va_up (va_up (va_up (va_up M83.1 0 g84) 0 g85) 0 g86) 0 g87) 0 g88, M83.2)))))))))))))) else (0, u81.2))))))))))))
def sx4_setPlaces (M : Md) (x1 : Int32) (x2 : Int32) (x3 : Int32) (x4 : Int32) (x5 : Int32) : Prop := (if x1 < 1 then (bnd (fx4_refused M 1) (fun u2 => (if u2.1 = 0 then sx4_saves u2.2 else True))) else (if x2 ≤ x1 then (bnd (fx4_refused M 1) (fun u12 => (if u12.1 = 0 then sx4_saves u12.2 else True))) else (if x3 ≤ x2 then (bnd (fx4_refused M 1) (fun u22 => (if u22.1 = 0 then sx4_saves u22.2 else True))) else (if x4 ≤ x3 then (bnd (fx4_refused M 1) (fun u32 => (if u32.1 = 0 then sx4_saves u32.2 else True))) else (if x5 ≤ x4 then (bnd (fx4_refused M 1) (fun u42 => (if u42.1 = 0 then sx4_saves u42.2 else True))) else (if 1000 < x5 then (bnd (fx4_refused M 1) (fun u52 => (if u52.1 = 0 then sx4_saves u52.2 else True))) else (if 0 < ((M.1 0) 36) then (bnd (fx4_refused M 2) (fun u62 => (if u62.1 = 0 then sx4_saves u62.2 else True))) else (if ((M.1 0) 117) ≤ 0 then (bnd (fx4_refused M 0) (fun u72 => (if u72.1 = 0 then sx4_saves u72.2 else True))) else (bnd (fx4_refused M 2) (fun u81 => (if u81.1 = 0 then sx4_saves u81.2 else True)))))))))))
set_option maxHeartbeats 4000000 in
set_option maxRecDepth 100000 in
theorem cx4_setPlaces {l : Launch} {D : va_G} {cI cB cS cJ : ClassId} {K : State → Prop} (E : kE D cI cB cS cJ K) (am : Nat → Nat) (M : Md) (x1 : Int32) (x2 : Int32) (x3 : Int32) (x4 : Int32) (x5 : Int32) (hF : sx4_setPlaces M x1 x2 x3 x4 x5) : kI l D K yX4_setPlaces wsX4_setPlaces 1 21 [.ref (am 0), .int x1, .int x2, .int x3, .int x4, .int x5] (mdW cI am M) (fx4_setPlaces M x1 x2 x3 x4 x5).1 (mdW cI am ((fx4_setPlaces M x1 x2 x3 x4 x5).2)) := by
  refine kI_of (own := RX4) (cc := cX4_setPlaces) (maxL := 8) (tys := kty cI cB cS cJ) (fun U h => (E.2 U h).1) (by decide) rfl rfl (Nat.le_of_ble_eq_true rfl) ?_
  intro p e s m below meth c A ls hx hb hr hml hts hown hlk hKs hK hP hD hA hS hl
  have hl : lv_has ls 8 [(0, .ref (am 0)), (1, .int x1), (2, .int x2), (3, .int x3), (4, .int x4), (5, .int x5)] := hl
  have hX : CallFix p m c cX4_setPlaces 8 s _ wsX4_setPlaces RX4 := ⟨hx, hb, hml, hown, hts⟩
  have hinX4 : ∀ w ∈ wsX40, w ∈ wsX4_setPlaces := fun w h => List.mem_cons_of_mem _ (List.mem_append_right _ h)
  have q1 := hts (.fieldLink RX4 7 "LabelStationModel" "now" "[I") (List.mem_of_getElem? (i := 1) rfl)
  generalize hR : fx4_setPlaces M x1 x2 x3 x4 x5 = R
  rw [fx4_setPlaces] at hR
  rw [sx4_setPlaces] at hF
  refine lv_iload_n hx hb dX4_setPlaces_0 rfl (lv_at hl 1 rfl) ?_
  refine lv_iconst (v := 1) hx hb dX4_setPlaces_1 (by decide) ?_
  refine lv_icmp_lt (tgt := 40) hx hb dX4_setPlaces_2 (by decide) (fun c1 => ?_) (fun c1 => ?_)
  · rw [if_pos c1] at hR hF
    refine lv_iconst (v := 0) hx hb dX4_setPlaces_40 (by decide) ?_
    refine lv_istore (lv' := [(6, .int 0), (0, .ref (am 0)), (1, .int x1), (2, .int x2), (3, .int x3), (4, .int x4), (5, .int x5)]) hx hb dX4_setPlaces_41 hl (by decide) rfl (fun ls hl => ?_)
    refine lv_aload_n hx hb dX4_setPlaces_43 rfl (lv_at hl 1 rfl) ?_
    refine lv_iload hx hb dX4_setPlaces_44 (lv_at hl 0 rfl) ?_
    refine lv_if_ne (tgt := 53) hx hb dX4_setPlaces_46 (by decide) (fun c => absurd (by decide) c) (fun _ => ?_)
    refine lv_iconst (v := 1) hx hb dX4_setPlaces_49 (by decide) ?_
    refine lv_goto (tgt := 78) hx hb dX4_setPlaces_50 (by decide) ?_
    refine kcI (ci := 4) (q0 := 0) (As := [.int 1]) (rest := []) E.1 (cx4_refused E am M 1) hX (cwV 1 hts gX4_setPlaces_X4_refused rfl rfl rfl hdX4_refused ⟨Nat.le_of_ble_eq_true rfl, Nat.le_of_ble_eq_true rfl⟩) hKs hK hP hD hS hA _ _ (kw_self _) (kw_self _).symm rfl rfl rfl rfl hl.1 (Nat.le_of_ble_eq_true rfl) dX4_setPlaces_78 ⟨Nat.zero_le _, Nat.zero_le _⟩ (fun H locs hP hD hS => ?_)
    have hP : va_P D vwCl (mdW cI am ((fx4_refused M 1).2)) H := hP
    have hD : va_D A (mdW cI am ((fx4_refused M 1).2)) := hD
    generalize eu2 : fx4_refused M 1 = u2 at hR hF hP hD ⊢
    replace hR := bnd_e hR
    replace hF := bnd_p hF
    refine lv_if_eq (tgt := 86) hx hb dX4_setPlaces_81 (by decide) (fun c3 => ?_) (fun c3 => ?_)
    · rw [if_pos c3] at hR hF
      refine lv_aload_n hx hb dX4_setPlaces_86 rfl (lv_at hl 1 rfl) ?_
      have hs10 := hF
      refine kcV (ci := 4) (q0 := 0) (As := []) (rest := []) E.1 (cx4_saves E am u2.2 hs10) hX (cwV 0 hts gX4_setPlaces_X4_saves rfl rfl rfl hdX4_saves ⟨Nat.le_of_ble_eq_true rfl, Nat.le_of_ble_eq_true rfl⟩) hKs hK hP hD hS hA _ _ (kw_self _) (kw_self _).symm rfl rfl rfl rfl hl.1 (Nat.le_of_ble_eq_true rfl) dX4_setPlaces_87 ⟨Nat.zero_le _, Nat.zero_le _⟩ (fun H locs hP hD hS => ?_)
      have hP : va_P D vwCl (mdW cI am (fx4_saves u2.2)) H := hP
      have hD : va_D A (mdW cI am (fx4_saves u2.2)) := hD
      generalize eM4 : fx4_saves u2.2 = M4 at hR hP hD
      replace hR := bnd_e hR
      refine lv_aload_n hx hb dX4_setPlaces_90 rfl (lv_at hl 1 rfl) ?_
      refine va_get (D := D) (ci := 4) (v := .ref (am 1)) (C := RX4) (T := TX4) (N := 8) hx hb hts hinX4 hown hK hP 0 rfl rfl 0 (by decide) q1 (fun _ h9 => h9) rfl dX4_setPlaces_91 ?_
      refine lv_bipush (v := 11) hx hb dX4_setPlaces_94 (by decide) ?_
      refine va_iald hx hb hK hP 1 0 rfl rfl (kin_lit (j := 11) (n := 1203) (by decide) (by decide)) dX4_setPlaces_96 ?_
      refine kw_top (v := .int ((M4.1 0) 11)) rfl ?_
      refine lv_istore (lv' := [(7, .int ((M4.1 0) 11)), (6, .int 0), (0, .ref (am 0)), (1, .int x1), (2, .int x2), (3, .int x3), (4, .int x4), (5, .int x5)]) hx hb dX4_setPlaces_97 hl (by decide) rfl (fun ls hl => ?_)
      refine lv_aload_n hx hb dX4_setPlaces_99 rfl (lv_at hl 2 rfl) ?_
      refine va_get (D := D) (ci := 4) (v := .ref (am 1)) (C := RX4) (T := TX4) (N := 8) hx hb hts hinX4 hown hK hP 0 rfl rfl 0 (by decide) q1 (fun _ h9 => h9) rfl dX4_setPlaces_100 ?_
      refine lv_bipush (v := 7) hx hb dX4_setPlaces_103 (by decide) ?_
      refine lv_iload_n hx hb dX4_setPlaces_105 rfl (lv_at hl 3 rfl) ?_
      refine va_iast hx hb hK hP hD hS 1 0 rfl rfl (kin_lit (j := 7) (n := 1203) (by decide) (by decide)) dX4_setPlaces_106 (fun H locs hP hD hS => ?_)
      have hP : va_P D vwCl (mdW cI am (va_up M4.1 0 (upd (M4.1 0) 7 x1), M4.2)) H := hP
      have hD : va_D A (mdW cI am (va_up M4.1 0 (upd (M4.1 0) 7 x1), M4.2)) := hD
      generalize eg5 : upd (M4.1 0) 7 x1 = g5 at hR hP hD
      replace hR := bnd_e hR
      refine lv_aload_n hx hb dX4_setPlaces_107 rfl (lv_at hl 2 rfl) ?_
      refine va_get (D := D) (ci := 4) (v := .ref (am 1)) (C := RX4) (T := TX4) (N := 8) hx hb hts hinX4 hown hK hP 0 rfl rfl 0 (by decide) q1 (fun _ h9 => h9) rfl dX4_setPlaces_108 ?_
      refine lv_bipush (v := 8) hx hb dX4_setPlaces_111 (by decide) ?_
      refine lv_iload_n hx hb dX4_setPlaces_113 rfl (lv_at hl 4 rfl) ?_
      refine va_iast hx hb hK hP hD hS 1 0 rfl rfl (kin_lit (j := 8) (n := 1203) (by decide) (by decide)) dX4_setPlaces_114 (fun H locs hP hD hS => ?_)
      have hP : va_P D vwCl (mdW cI am (va_up (va_up M4.1 0 g5) 0 (upd g5 8 x2), M4.2)) H := hP
      have hD : va_D A (mdW cI am (va_up (va_up M4.1 0 g5) 0 (upd g5 8 x2), M4.2)) := hD
      generalize eg6 : upd g5 8 x2 = g6 at hR hP hD
      replace hR := bnd_e hR
      refine lv_aload_n hx hb dX4_setPlaces_115 rfl (lv_at hl 2 rfl) ?_
      refine va_get (D := D) (ci := 4) (v := .ref (am 1)) (C := RX4) (T := TX4) (N := 8) hx hb hts hinX4 hown hK hP 0 rfl rfl 0 (by decide) q1 (fun _ h9 => h9) rfl dX4_setPlaces_116 ?_
      refine lv_bipush (v := 9) hx hb dX4_setPlaces_119 (by decide) ?_
      refine lv_iload_n hx hb dX4_setPlaces_121 rfl (lv_at hl 5 rfl) ?_
      refine va_iast hx hb hK hP hD hS 1 0 rfl rfl (kin_lit (j := 9) (n := 1203) (by decide) (by decide)) dX4_setPlaces_122 (fun H locs hP hD hS => ?_)
      have hP : va_P D vwCl (mdW cI am (va_up (va_up (va_up M4.1 0 g5) 0 g6) 0 (upd g6 9 x3), M4.2)) H := hP
      have hD : va_D A (mdW cI am (va_up (va_up (va_up M4.1 0 g5) 0 g6) 0 (upd g6 9 x3), M4.2)) := hD
      generalize eg7 : upd g6 9 x3 = g7 at hR hP hD
      replace hR := bnd_e hR
      refine lv_aload_n hx hb dX4_setPlaces_123 rfl (lv_at hl 2 rfl) ?_
      refine va_get (D := D) (ci := 4) (v := .ref (am 1)) (C := RX4) (T := TX4) (N := 8) hx hb hts hinX4 hown hK hP 0 rfl rfl 0 (by decide) q1 (fun _ h9 => h9) rfl dX4_setPlaces_124 ?_
      refine lv_bipush (v := 10) hx hb dX4_setPlaces_127 (by decide) ?_
      refine lv_iload hx hb dX4_setPlaces_129 (lv_at hl 6 rfl) ?_
      refine va_iast hx hb hK hP hD hS 1 0 rfl rfl (kin_lit (j := 10) (n := 1203) (by decide) (by decide)) dX4_setPlaces_131 (fun H locs hP hD hS => ?_)
      have hP : va_P D vwCl (mdW cI am (va_up (va_up (va_up (va_up M4.1 0 g5) 0 g6) 0 g7) 0 (upd g7 10 x4), M4.2)) H := hP
      have hD : va_D A (mdW cI am (va_up (va_up (va_up (va_up M4.1 0 g5) 0 g6) 0 g7) 0 (upd g7 10 x4), M4.2)) := hD
      generalize eg8 : upd g7 10 x4 = g8 at hR hP hD
      replace hR := bnd_e hR
      refine lv_aload_n hx hb dX4_setPlaces_132 rfl (lv_at hl 2 rfl) ?_
      refine va_get (D := D) (ci := 4) (v := .ref (am 1)) (C := RX4) (T := TX4) (N := 8) hx hb hts hinX4 hown hK hP 0 rfl rfl 0 (by decide) q1 (fun _ h9 => h9) rfl dX4_setPlaces_133 ?_
      refine lv_bipush (v := 11) hx hb dX4_setPlaces_136 (by decide) ?_
      refine lv_iload hx hb dX4_setPlaces_138 (lv_at hl 7 rfl) ?_
      refine va_iast hx hb hK hP hD hS 1 0 rfl rfl (kin_lit (j := 11) (n := 1203) (by decide) (by decide)) dX4_setPlaces_140 (fun H locs hP hD hS => ?_)
      have hP : va_P D vwCl (mdW cI am (va_up (va_up (va_up (va_up (va_up M4.1 0 g5) 0 g6) 0 g7) 0 g8) 0 (upd g8 11 x5), M4.2)) H := hP
      have hD : va_D A (mdW cI am (va_up (va_up (va_up (va_up (va_up M4.1 0 g5) 0 g6) 0 g7) 0 g8) 0 (upd g8 11 x5), M4.2)) := hD
      generalize eg9 : upd g8 11 x5 = g9 at hR hP hD
      replace hR := bnd_e hR
      refine lv_iload hx hb dX4_setPlaces_141 (lv_at hl 0 rfl) ?_
      subst hR
      exact krI hx hb hr hlk hP hD hS dX4_setPlaces_143 rfl rfl
    · rw [if_neg c3] at hR hF
      refine lv_iconst (v := 0) hx hb dX4_setPlaces_84 (by decide) ?_
      subst hR
      exact krI hx hb hr hlk hP hD hS dX4_setPlaces_85 rfl rfl
  · rw [if_neg c1] at hR hF
    refine lv_iload_n hx hb dX4_setPlaces_5 rfl (lv_at hl 1 rfl) ?_
    refine lv_iload_n hx hb dX4_setPlaces_6 rfl (lv_at hl 2 rfl) ?_
    refine lv_icmp_ge (tgt := 40) hx hb dX4_setPlaces_7 (by decide) (fun c11 => ?_) (fun c11 => ?_)
    · rw [if_pos c11] at hR hF
      refine lv_iconst (v := 0) hx hb dX4_setPlaces_40 (by decide) ?_
      refine lv_istore (lv' := [(6, .int 0), (0, .ref (am 0)), (1, .int x1), (2, .int x2), (3, .int x3), (4, .int x4), (5, .int x5)]) hx hb dX4_setPlaces_41 hl (by decide) rfl (fun ls hl => ?_)
      refine lv_aload_n hx hb dX4_setPlaces_43 rfl (lv_at hl 1 rfl) ?_
      refine lv_iload hx hb dX4_setPlaces_44 (lv_at hl 0 rfl) ?_
      refine lv_if_ne (tgt := 53) hx hb dX4_setPlaces_46 (by decide) (fun c => absurd (by decide) c) (fun _ => ?_)
      refine lv_iconst (v := 1) hx hb dX4_setPlaces_49 (by decide) ?_
      refine lv_goto (tgt := 78) hx hb dX4_setPlaces_50 (by decide) ?_
      refine kcI (ci := 4) (q0 := 0) (As := [.int 1]) (rest := []) E.1 (cx4_refused E am M 1) hX (cwV 1 hts gX4_setPlaces_X4_refused rfl rfl rfl hdX4_refused ⟨Nat.le_of_ble_eq_true rfl, Nat.le_of_ble_eq_true rfl⟩) hKs hK hP hD hS hA _ _ (kw_self _) (kw_self _).symm rfl rfl rfl rfl hl.1 (Nat.le_of_ble_eq_true rfl) dX4_setPlaces_78 ⟨Nat.zero_le _, Nat.zero_le _⟩ (fun H locs hP hD hS => ?_)
      have hP : va_P D vwCl (mdW cI am ((fx4_refused M 1).2)) H := hP
      have hD : va_D A (mdW cI am ((fx4_refused M 1).2)) := hD
      generalize eu12 : fx4_refused M 1 = u12 at hR hF hP hD ⊢
      replace hR := bnd_e hR
      replace hF := bnd_p hF
      refine lv_if_eq (tgt := 86) hx hb dX4_setPlaces_81 (by decide) (fun c13 => ?_) (fun c13 => ?_)
      · rw [if_pos c13] at hR hF
        refine lv_aload_n hx hb dX4_setPlaces_86 rfl (lv_at hl 1 rfl) ?_
        have hs20 := hF
        refine kcV (ci := 4) (q0 := 0) (As := []) (rest := []) E.1 (cx4_saves E am u12.2 hs20) hX (cwV 0 hts gX4_setPlaces_X4_saves rfl rfl rfl hdX4_saves ⟨Nat.le_of_ble_eq_true rfl, Nat.le_of_ble_eq_true rfl⟩) hKs hK hP hD hS hA _ _ (kw_self _) (kw_self _).symm rfl rfl rfl rfl hl.1 (Nat.le_of_ble_eq_true rfl) dX4_setPlaces_87 ⟨Nat.zero_le _, Nat.zero_le _⟩ (fun H locs hP hD hS => ?_)
        have hP : va_P D vwCl (mdW cI am (fx4_saves u12.2)) H := hP
        have hD : va_D A (mdW cI am (fx4_saves u12.2)) := hD
        generalize eM14 : fx4_saves u12.2 = M14 at hR hP hD
        replace hR := bnd_e hR
        refine lv_aload_n hx hb dX4_setPlaces_90 rfl (lv_at hl 1 rfl) ?_
        refine va_get (D := D) (ci := 4) (v := .ref (am 1)) (C := RX4) (T := TX4) (N := 8) hx hb hts hinX4 hown hK hP 0 rfl rfl 0 (by decide) q1 (fun _ h9 => h9) rfl dX4_setPlaces_91 ?_
        refine lv_bipush (v := 11) hx hb dX4_setPlaces_94 (by decide) ?_
        refine va_iald hx hb hK hP 1 0 rfl rfl (kin_lit (j := 11) (n := 1203) (by decide) (by decide)) dX4_setPlaces_96 ?_
        refine kw_top (v := .int ((M14.1 0) 11)) rfl ?_
        refine lv_istore (lv' := [(7, .int ((M14.1 0) 11)), (6, .int 0), (0, .ref (am 0)), (1, .int x1), (2, .int x2), (3, .int x3), (4, .int x4), (5, .int x5)]) hx hb dX4_setPlaces_97 hl (by decide) rfl (fun ls hl => ?_)
        refine lv_aload_n hx hb dX4_setPlaces_99 rfl (lv_at hl 2 rfl) ?_
        refine va_get (D := D) (ci := 4) (v := .ref (am 1)) (C := RX4) (T := TX4) (N := 8) hx hb hts hinX4 hown hK hP 0 rfl rfl 0 (by decide) q1 (fun _ h9 => h9) rfl dX4_setPlaces_100 ?_
        refine lv_bipush (v := 7) hx hb dX4_setPlaces_103 (by decide) ?_
        refine lv_iload_n hx hb dX4_setPlaces_105 rfl (lv_at hl 3 rfl) ?_
        refine va_iast hx hb hK hP hD hS 1 0 rfl rfl (kin_lit (j := 7) (n := 1203) (by decide) (by decide)) dX4_setPlaces_106 (fun H locs hP hD hS => ?_)
        have hP : va_P D vwCl (mdW cI am (va_up M14.1 0 (upd (M14.1 0) 7 x1), M14.2)) H := hP
        have hD : va_D A (mdW cI am (va_up M14.1 0 (upd (M14.1 0) 7 x1), M14.2)) := hD
        generalize eg15 : upd (M14.1 0) 7 x1 = g15 at hR hP hD
        replace hR := bnd_e hR
        refine lv_aload_n hx hb dX4_setPlaces_107 rfl (lv_at hl 2 rfl) ?_
        refine va_get (D := D) (ci := 4) (v := .ref (am 1)) (C := RX4) (T := TX4) (N := 8) hx hb hts hinX4 hown hK hP 0 rfl rfl 0 (by decide) q1 (fun _ h9 => h9) rfl dX4_setPlaces_108 ?_
        refine lv_bipush (v := 8) hx hb dX4_setPlaces_111 (by decide) ?_
        refine lv_iload_n hx hb dX4_setPlaces_113 rfl (lv_at hl 4 rfl) ?_
        refine va_iast hx hb hK hP hD hS 1 0 rfl rfl (kin_lit (j := 8) (n := 1203) (by decide) (by decide)) dX4_setPlaces_114 (fun H locs hP hD hS => ?_)
        have hP : va_P D vwCl (mdW cI am (va_up (va_up M14.1 0 g15) 0 (upd g15 8 x2), M14.2)) H := hP
        have hD : va_D A (mdW cI am (va_up (va_up M14.1 0 g15) 0 (upd g15 8 x2), M14.2)) := hD
        generalize eg16 : upd g15 8 x2 = g16 at hR hP hD
        replace hR := bnd_e hR
        refine lv_aload_n hx hb dX4_setPlaces_115 rfl (lv_at hl 2 rfl) ?_
        refine va_get (D := D) (ci := 4) (v := .ref (am 1)) (C := RX4) (T := TX4) (N := 8) hx hb hts hinX4 hown hK hP 0 rfl rfl 0 (by decide) q1 (fun _ h9 => h9) rfl dX4_setPlaces_116 ?_
        refine lv_bipush (v := 9) hx hb dX4_setPlaces_119 (by decide) ?_
        refine lv_iload_n hx hb dX4_setPlaces_121 rfl (lv_at hl 5 rfl) ?_
        refine va_iast hx hb hK hP hD hS 1 0 rfl rfl (kin_lit (j := 9) (n := 1203) (by decide) (by decide)) dX4_setPlaces_122 (fun H locs hP hD hS => ?_)
        have hP : va_P D vwCl (mdW cI am (va_up (va_up (va_up M14.1 0 g15) 0 g16) 0 (upd g16 9 x3), M14.2)) H := hP
        have hD : va_D A (mdW cI am (va_up (va_up (va_up M14.1 0 g15) 0 g16) 0 (upd g16 9 x3), M14.2)) := hD
        generalize eg17 : upd g16 9 x3 = g17 at hR hP hD
        replace hR := bnd_e hR
        refine lv_aload_n hx hb dX4_setPlaces_123 rfl (lv_at hl 2 rfl) ?_
        refine va_get (D := D) (ci := 4) (v := .ref (am 1)) (C := RX4) (T := TX4) (N := 8) hx hb hts hinX4 hown hK hP 0 rfl rfl 0 (by decide) q1 (fun _ h9 => h9) rfl dX4_setPlaces_124 ?_
        refine lv_bipush (v := 10) hx hb dX4_setPlaces_127 (by decide) ?_
        refine lv_iload hx hb dX4_setPlaces_129 (lv_at hl 6 rfl) ?_
        refine va_iast hx hb hK hP hD hS 1 0 rfl rfl (kin_lit (j := 10) (n := 1203) (by decide) (by decide)) dX4_setPlaces_131 (fun H locs hP hD hS => ?_)
        have hP : va_P D vwCl (mdW cI am (va_up (va_up (va_up (va_up M14.1 0 g15) 0 g16) 0 g17) 0 (upd g17 10 x4), M14.2)) H := hP
        have hD : va_D A (mdW cI am (va_up (va_up (va_up (va_up M14.1 0 g15) 0 g16) 0 g17) 0 (upd g17 10 x4), M14.2)) := hD
        generalize eg18 : upd g17 10 x4 = g18 at hR hP hD
        replace hR := bnd_e hR
        refine lv_aload_n hx hb dX4_setPlaces_132 rfl (lv_at hl 2 rfl) ?_
        refine va_get (D := D) (ci := 4) (v := .ref (am 1)) (C := RX4) (T := TX4) (N := 8) hx hb hts hinX4 hown hK hP 0 rfl rfl 0 (by decide) q1 (fun _ h9 => h9) rfl dX4_setPlaces_133 ?_
        refine lv_bipush (v := 11) hx hb dX4_setPlaces_136 (by decide) ?_
        refine lv_iload hx hb dX4_setPlaces_138 (lv_at hl 7 rfl) ?_
        refine va_iast hx hb hK hP hD hS 1 0 rfl rfl (kin_lit (j := 11) (n := 1203) (by decide) (by decide)) dX4_setPlaces_140 (fun H locs hP hD hS => ?_)
        have hP : va_P D vwCl (mdW cI am (va_up (va_up (va_up (va_up (va_up M14.1 0 g15) 0 g16) 0 g17) 0 g18) 0 (upd g18 11 x5), M14.2)) H := hP
        have hD : va_D A (mdW cI am (va_up (va_up (va_up (va_up (va_up M14.1 0 g15) 0 g16) 0 g17) 0 g18) 0 (upd g18 11 x5), M14.2)) := hD
        generalize eg19 : upd g18 11 x5 = g19 at hR hP hD
        replace hR := bnd_e hR
        refine lv_iload hx hb dX4_setPlaces_141 (lv_at hl 0 rfl) ?_
        subst hR
        exact krI hx hb hr hlk hP hD hS dX4_setPlaces_143 rfl rfl
      · rw [if_neg c13] at hR hF
        refine lv_iconst (v := 0) hx hb dX4_setPlaces_84 (by decide) ?_
        subst hR
        exact krI hx hb hr hlk hP hD hS dX4_setPlaces_85 rfl rfl
    · rw [if_neg c11] at hR hF
      refine lv_iload_n hx hb dX4_setPlaces_10 rfl (lv_at hl 2 rfl) ?_
      refine lv_iload_n hx hb dX4_setPlaces_11 rfl (lv_at hl 3 rfl) ?_
      refine lv_icmp_ge (tgt := 40) hx hb dX4_setPlaces_12 (by decide) (fun c21 => ?_) (fun c21 => ?_)
      · rw [if_pos c21] at hR hF
        refine lv_iconst (v := 0) hx hb dX4_setPlaces_40 (by decide) ?_
        refine lv_istore (lv' := [(6, .int 0), (0, .ref (am 0)), (1, .int x1), (2, .int x2), (3, .int x3), (4, .int x4), (5, .int x5)]) hx hb dX4_setPlaces_41 hl (by decide) rfl (fun ls hl => ?_)
        refine lv_aload_n hx hb dX4_setPlaces_43 rfl (lv_at hl 1 rfl) ?_
        refine lv_iload hx hb dX4_setPlaces_44 (lv_at hl 0 rfl) ?_
        refine lv_if_ne (tgt := 53) hx hb dX4_setPlaces_46 (by decide) (fun c => absurd (by decide) c) (fun _ => ?_)
        refine lv_iconst (v := 1) hx hb dX4_setPlaces_49 (by decide) ?_
        refine lv_goto (tgt := 78) hx hb dX4_setPlaces_50 (by decide) ?_
        refine kcI (ci := 4) (q0 := 0) (As := [.int 1]) (rest := []) E.1 (cx4_refused E am M 1) hX (cwV 1 hts gX4_setPlaces_X4_refused rfl rfl rfl hdX4_refused ⟨Nat.le_of_ble_eq_true rfl, Nat.le_of_ble_eq_true rfl⟩) hKs hK hP hD hS hA _ _ (kw_self _) (kw_self _).symm rfl rfl rfl rfl hl.1 (Nat.le_of_ble_eq_true rfl) dX4_setPlaces_78 ⟨Nat.zero_le _, Nat.zero_le _⟩ (fun H locs hP hD hS => ?_)
        have hP : va_P D vwCl (mdW cI am ((fx4_refused M 1).2)) H := hP
        have hD : va_D A (mdW cI am ((fx4_refused M 1).2)) := hD
        generalize eu22 : fx4_refused M 1 = u22 at hR hF hP hD ⊢
        replace hR := bnd_e hR
        replace hF := bnd_p hF
        refine lv_if_eq (tgt := 86) hx hb dX4_setPlaces_81 (by decide) (fun c23 => ?_) (fun c23 => ?_)
        · rw [if_pos c23] at hR hF
          refine lv_aload_n hx hb dX4_setPlaces_86 rfl (lv_at hl 1 rfl) ?_
          have hs30 := hF
          refine kcV (ci := 4) (q0 := 0) (As := []) (rest := []) E.1 (cx4_saves E am u22.2 hs30) hX (cwV 0 hts gX4_setPlaces_X4_saves rfl rfl rfl hdX4_saves ⟨Nat.le_of_ble_eq_true rfl, Nat.le_of_ble_eq_true rfl⟩) hKs hK hP hD hS hA _ _ (kw_self _) (kw_self _).symm rfl rfl rfl rfl hl.1 (Nat.le_of_ble_eq_true rfl) dX4_setPlaces_87 ⟨Nat.zero_le _, Nat.zero_le _⟩ (fun H locs hP hD hS => ?_)
          have hP : va_P D vwCl (mdW cI am (fx4_saves u22.2)) H := hP
          have hD : va_D A (mdW cI am (fx4_saves u22.2)) := hD
          generalize eM24 : fx4_saves u22.2 = M24 at hR hP hD
          replace hR := bnd_e hR
          refine lv_aload_n hx hb dX4_setPlaces_90 rfl (lv_at hl 1 rfl) ?_
          refine va_get (D := D) (ci := 4) (v := .ref (am 1)) (C := RX4) (T := TX4) (N := 8) hx hb hts hinX4 hown hK hP 0 rfl rfl 0 (by decide) q1 (fun _ h9 => h9) rfl dX4_setPlaces_91 ?_
          refine lv_bipush (v := 11) hx hb dX4_setPlaces_94 (by decide) ?_
          refine va_iald hx hb hK hP 1 0 rfl rfl (kin_lit (j := 11) (n := 1203) (by decide) (by decide)) dX4_setPlaces_96 ?_
          refine kw_top (v := .int ((M24.1 0) 11)) rfl ?_
          refine lv_istore (lv' := [(7, .int ((M24.1 0) 11)), (6, .int 0), (0, .ref (am 0)), (1, .int x1), (2, .int x2), (3, .int x3), (4, .int x4), (5, .int x5)]) hx hb dX4_setPlaces_97 hl (by decide) rfl (fun ls hl => ?_)
          refine lv_aload_n hx hb dX4_setPlaces_99 rfl (lv_at hl 2 rfl) ?_
          refine va_get (D := D) (ci := 4) (v := .ref (am 1)) (C := RX4) (T := TX4) (N := 8) hx hb hts hinX4 hown hK hP 0 rfl rfl 0 (by decide) q1 (fun _ h9 => h9) rfl dX4_setPlaces_100 ?_
          refine lv_bipush (v := 7) hx hb dX4_setPlaces_103 (by decide) ?_
          refine lv_iload_n hx hb dX4_setPlaces_105 rfl (lv_at hl 3 rfl) ?_
          refine va_iast hx hb hK hP hD hS 1 0 rfl rfl (kin_lit (j := 7) (n := 1203) (by decide) (by decide)) dX4_setPlaces_106 (fun H locs hP hD hS => ?_)
          have hP : va_P D vwCl (mdW cI am (va_up M24.1 0 (upd (M24.1 0) 7 x1), M24.2)) H := hP
          have hD : va_D A (mdW cI am (va_up M24.1 0 (upd (M24.1 0) 7 x1), M24.2)) := hD
          generalize eg25 : upd (M24.1 0) 7 x1 = g25 at hR hP hD
          replace hR := bnd_e hR
          refine lv_aload_n hx hb dX4_setPlaces_107 rfl (lv_at hl 2 rfl) ?_
          refine va_get (D := D) (ci := 4) (v := .ref (am 1)) (C := RX4) (T := TX4) (N := 8) hx hb hts hinX4 hown hK hP 0 rfl rfl 0 (by decide) q1 (fun _ h9 => h9) rfl dX4_setPlaces_108 ?_
          refine lv_bipush (v := 8) hx hb dX4_setPlaces_111 (by decide) ?_
          refine lv_iload_n hx hb dX4_setPlaces_113 rfl (lv_at hl 4 rfl) ?_
          refine va_iast hx hb hK hP hD hS 1 0 rfl rfl (kin_lit (j := 8) (n := 1203) (by decide) (by decide)) dX4_setPlaces_114 (fun H locs hP hD hS => ?_)
          have hP : va_P D vwCl (mdW cI am (va_up (va_up M24.1 0 g25) 0 (upd g25 8 x2), M24.2)) H := hP
          have hD : va_D A (mdW cI am (va_up (va_up M24.1 0 g25) 0 (upd g25 8 x2), M24.2)) := hD
          generalize eg26 : upd g25 8 x2 = g26 at hR hP hD
          replace hR := bnd_e hR
          refine lv_aload_n hx hb dX4_setPlaces_115 rfl (lv_at hl 2 rfl) ?_
          refine va_get (D := D) (ci := 4) (v := .ref (am 1)) (C := RX4) (T := TX4) (N := 8) hx hb hts hinX4 hown hK hP 0 rfl rfl 0 (by decide) q1 (fun _ h9 => h9) rfl dX4_setPlaces_116 ?_
          refine lv_bipush (v := 9) hx hb dX4_setPlaces_119 (by decide) ?_
          refine lv_iload_n hx hb dX4_setPlaces_121 rfl (lv_at hl 5 rfl) ?_
          refine va_iast hx hb hK hP hD hS 1 0 rfl rfl (kin_lit (j := 9) (n := 1203) (by decide) (by decide)) dX4_setPlaces_122 (fun H locs hP hD hS => ?_)
          have hP : va_P D vwCl (mdW cI am (va_up (va_up (va_up M24.1 0 g25) 0 g26) 0 (upd g26 9 x3), M24.2)) H := hP
          have hD : va_D A (mdW cI am (va_up (va_up (va_up M24.1 0 g25) 0 g26) 0 (upd g26 9 x3), M24.2)) := hD
          generalize eg27 : upd g26 9 x3 = g27 at hR hP hD
          replace hR := bnd_e hR
          refine lv_aload_n hx hb dX4_setPlaces_123 rfl (lv_at hl 2 rfl) ?_
          refine va_get (D := D) (ci := 4) (v := .ref (am 1)) (C := RX4) (T := TX4) (N := 8) hx hb hts hinX4 hown hK hP 0 rfl rfl 0 (by decide) q1 (fun _ h9 => h9) rfl dX4_setPlaces_124 ?_
          refine lv_bipush (v := 10) hx hb dX4_setPlaces_127 (by decide) ?_
          refine lv_iload hx hb dX4_setPlaces_129 (lv_at hl 6 rfl) ?_
          refine va_iast hx hb hK hP hD hS 1 0 rfl rfl (kin_lit (j := 10) (n := 1203) (by decide) (by decide)) dX4_setPlaces_131 (fun H locs hP hD hS => ?_)
          have hP : va_P D vwCl (mdW cI am (va_up (va_up (va_up (va_up M24.1 0 g25) 0 g26) 0 g27) 0 (upd g27 10 x4), M24.2)) H := hP
          have hD : va_D A (mdW cI am (va_up (va_up (va_up (va_up M24.1 0 g25) 0 g26) 0 g27) 0 (upd g27 10 x4), M24.2)) := hD
          generalize eg28 : upd g27 10 x4 = g28 at hR hP hD
          replace hR := bnd_e hR
          refine lv_aload_n hx hb dX4_setPlaces_132 rfl (lv_at hl 2 rfl) ?_
          refine va_get (D := D) (ci := 4) (v := .ref (am 1)) (C := RX4) (T := TX4) (N := 8) hx hb hts hinX4 hown hK hP 0 rfl rfl 0 (by decide) q1 (fun _ h9 => h9) rfl dX4_setPlaces_133 ?_
          refine lv_bipush (v := 11) hx hb dX4_setPlaces_136 (by decide) ?_
          refine lv_iload hx hb dX4_setPlaces_138 (lv_at hl 7 rfl) ?_
          refine va_iast hx hb hK hP hD hS 1 0 rfl rfl (kin_lit (j := 11) (n := 1203) (by decide) (by decide)) dX4_setPlaces_140 (fun H locs hP hD hS => ?_)
          have hP : va_P D vwCl (mdW cI am (va_up (va_up (va_up (va_up (va_up M24.1 0 g25) 0 g26) 0 g27) 0 g28) 0 (upd g28 11 x5), M24.2)) H := hP
          have hD : va_D A (mdW cI am (va_up (va_up (va_up (va_up (va_up M24.1 0 g25) 0 g26) 0 g27) 0 g28) 0 (upd g28 11 x5), M24.2)) := hD
          generalize eg29 : upd g28 11 x5 = g29 at hR hP hD
          replace hR := bnd_e hR
          refine lv_iload hx hb dX4_setPlaces_141 (lv_at hl 0 rfl) ?_
          subst hR
          exact krI hx hb hr hlk hP hD hS dX4_setPlaces_143 rfl rfl
        · rw [if_neg c23] at hR hF
          refine lv_iconst (v := 0) hx hb dX4_setPlaces_84 (by decide) ?_
          subst hR
          exact krI hx hb hr hlk hP hD hS dX4_setPlaces_85 rfl rfl
      · rw [if_neg c21] at hR hF
        refine lv_iload_n hx hb dX4_setPlaces_15 rfl (lv_at hl 3 rfl) ?_
        refine lv_iload hx hb dX4_setPlaces_16 (lv_at hl 4 rfl) ?_
        refine lv_icmp_ge (tgt := 40) hx hb dX4_setPlaces_18 (by decide) (fun c31 => ?_) (fun c31 => ?_)
        · rw [if_pos c31] at hR hF
          refine lv_iconst (v := 0) hx hb dX4_setPlaces_40 (by decide) ?_
          refine lv_istore (lv' := [(6, .int 0), (0, .ref (am 0)), (1, .int x1), (2, .int x2), (3, .int x3), (4, .int x4), (5, .int x5)]) hx hb dX4_setPlaces_41 hl (by decide) rfl (fun ls hl => ?_)
          refine lv_aload_n hx hb dX4_setPlaces_43 rfl (lv_at hl 1 rfl) ?_
          refine lv_iload hx hb dX4_setPlaces_44 (lv_at hl 0 rfl) ?_
          refine lv_if_ne (tgt := 53) hx hb dX4_setPlaces_46 (by decide) (fun c => absurd (by decide) c) (fun _ => ?_)
          refine lv_iconst (v := 1) hx hb dX4_setPlaces_49 (by decide) ?_
          refine lv_goto (tgt := 78) hx hb dX4_setPlaces_50 (by decide) ?_
          refine kcI (ci := 4) (q0 := 0) (As := [.int 1]) (rest := []) E.1 (cx4_refused E am M 1) hX (cwV 1 hts gX4_setPlaces_X4_refused rfl rfl rfl hdX4_refused ⟨Nat.le_of_ble_eq_true rfl, Nat.le_of_ble_eq_true rfl⟩) hKs hK hP hD hS hA _ _ (kw_self _) (kw_self _).symm rfl rfl rfl rfl hl.1 (Nat.le_of_ble_eq_true rfl) dX4_setPlaces_78 ⟨Nat.zero_le _, Nat.zero_le _⟩ (fun H locs hP hD hS => ?_)
          have hP : va_P D vwCl (mdW cI am ((fx4_refused M 1).2)) H := hP
          have hD : va_D A (mdW cI am ((fx4_refused M 1).2)) := hD
          generalize eu32 : fx4_refused M 1 = u32 at hR hF hP hD ⊢
          replace hR := bnd_e hR
          replace hF := bnd_p hF
          refine lv_if_eq (tgt := 86) hx hb dX4_setPlaces_81 (by decide) (fun c33 => ?_) (fun c33 => ?_)
          · rw [if_pos c33] at hR hF
            refine lv_aload_n hx hb dX4_setPlaces_86 rfl (lv_at hl 1 rfl) ?_
            have hs40 := hF
            refine kcV (ci := 4) (q0 := 0) (As := []) (rest := []) E.1 (cx4_saves E am u32.2 hs40) hX (cwV 0 hts gX4_setPlaces_X4_saves rfl rfl rfl hdX4_saves ⟨Nat.le_of_ble_eq_true rfl, Nat.le_of_ble_eq_true rfl⟩) hKs hK hP hD hS hA _ _ (kw_self _) (kw_self _).symm rfl rfl rfl rfl hl.1 (Nat.le_of_ble_eq_true rfl) dX4_setPlaces_87 ⟨Nat.zero_le _, Nat.zero_le _⟩ (fun H locs hP hD hS => ?_)
            have hP : va_P D vwCl (mdW cI am (fx4_saves u32.2)) H := hP
            have hD : va_D A (mdW cI am (fx4_saves u32.2)) := hD
            generalize eM34 : fx4_saves u32.2 = M34 at hR hP hD
            replace hR := bnd_e hR
            refine lv_aload_n hx hb dX4_setPlaces_90 rfl (lv_at hl 1 rfl) ?_
            refine va_get (D := D) (ci := 4) (v := .ref (am 1)) (C := RX4) (T := TX4) (N := 8) hx hb hts hinX4 hown hK hP 0 rfl rfl 0 (by decide) q1 (fun _ h9 => h9) rfl dX4_setPlaces_91 ?_
            refine lv_bipush (v := 11) hx hb dX4_setPlaces_94 (by decide) ?_
            refine va_iald hx hb hK hP 1 0 rfl rfl (kin_lit (j := 11) (n := 1203) (by decide) (by decide)) dX4_setPlaces_96 ?_
            refine kw_top (v := .int ((M34.1 0) 11)) rfl ?_
            refine lv_istore (lv' := [(7, .int ((M34.1 0) 11)), (6, .int 0), (0, .ref (am 0)), (1, .int x1), (2, .int x2), (3, .int x3), (4, .int x4), (5, .int x5)]) hx hb dX4_setPlaces_97 hl (by decide) rfl (fun ls hl => ?_)
            refine lv_aload_n hx hb dX4_setPlaces_99 rfl (lv_at hl 2 rfl) ?_
            refine va_get (D := D) (ci := 4) (v := .ref (am 1)) (C := RX4) (T := TX4) (N := 8) hx hb hts hinX4 hown hK hP 0 rfl rfl 0 (by decide) q1 (fun _ h9 => h9) rfl dX4_setPlaces_100 ?_
            refine lv_bipush (v := 7) hx hb dX4_setPlaces_103 (by decide) ?_
            refine lv_iload_n hx hb dX4_setPlaces_105 rfl (lv_at hl 3 rfl) ?_
            refine va_iast hx hb hK hP hD hS 1 0 rfl rfl (kin_lit (j := 7) (n := 1203) (by decide) (by decide)) dX4_setPlaces_106 (fun H locs hP hD hS => ?_)
            have hP : va_P D vwCl (mdW cI am (va_up M34.1 0 (upd (M34.1 0) 7 x1), M34.2)) H := hP
            have hD : va_D A (mdW cI am (va_up M34.1 0 (upd (M34.1 0) 7 x1), M34.2)) := hD
            generalize eg35 : upd (M34.1 0) 7 x1 = g35 at hR hP hD
            replace hR := bnd_e hR
            refine lv_aload_n hx hb dX4_setPlaces_107 rfl (lv_at hl 2 rfl) ?_
            refine va_get (D := D) (ci := 4) (v := .ref (am 1)) (C := RX4) (T := TX4) (N := 8) hx hb hts hinX4 hown hK hP 0 rfl rfl 0 (by decide) q1 (fun _ h9 => h9) rfl dX4_setPlaces_108 ?_
            refine lv_bipush (v := 8) hx hb dX4_setPlaces_111 (by decide) ?_
            refine lv_iload_n hx hb dX4_setPlaces_113 rfl (lv_at hl 4 rfl) ?_
            refine va_iast hx hb hK hP hD hS 1 0 rfl rfl (kin_lit (j := 8) (n := 1203) (by decide) (by decide)) dX4_setPlaces_114 (fun H locs hP hD hS => ?_)
            have hP : va_P D vwCl (mdW cI am (va_up (va_up M34.1 0 g35) 0 (upd g35 8 x2), M34.2)) H := hP
            have hD : va_D A (mdW cI am (va_up (va_up M34.1 0 g35) 0 (upd g35 8 x2), M34.2)) := hD
            generalize eg36 : upd g35 8 x2 = g36 at hR hP hD
            replace hR := bnd_e hR
            refine lv_aload_n hx hb dX4_setPlaces_115 rfl (lv_at hl 2 rfl) ?_
            refine va_get (D := D) (ci := 4) (v := .ref (am 1)) (C := RX4) (T := TX4) (N := 8) hx hb hts hinX4 hown hK hP 0 rfl rfl 0 (by decide) q1 (fun _ h9 => h9) rfl dX4_setPlaces_116 ?_
            refine lv_bipush (v := 9) hx hb dX4_setPlaces_119 (by decide) ?_
            refine lv_iload_n hx hb dX4_setPlaces_121 rfl (lv_at hl 5 rfl) ?_
            refine va_iast hx hb hK hP hD hS 1 0 rfl rfl (kin_lit (j := 9) (n := 1203) (by decide) (by decide)) dX4_setPlaces_122 (fun H locs hP hD hS => ?_)
            have hP : va_P D vwCl (mdW cI am (va_up (va_up (va_up M34.1 0 g35) 0 g36) 0 (upd g36 9 x3), M34.2)) H := hP
            have hD : va_D A (mdW cI am (va_up (va_up (va_up M34.1 0 g35) 0 g36) 0 (upd g36 9 x3), M34.2)) := hD
            generalize eg37 : upd g36 9 x3 = g37 at hR hP hD
            replace hR := bnd_e hR
            refine lv_aload_n hx hb dX4_setPlaces_123 rfl (lv_at hl 2 rfl) ?_
            refine va_get (D := D) (ci := 4) (v := .ref (am 1)) (C := RX4) (T := TX4) (N := 8) hx hb hts hinX4 hown hK hP 0 rfl rfl 0 (by decide) q1 (fun _ h9 => h9) rfl dX4_setPlaces_124 ?_
            refine lv_bipush (v := 10) hx hb dX4_setPlaces_127 (by decide) ?_
            refine lv_iload hx hb dX4_setPlaces_129 (lv_at hl 6 rfl) ?_
            refine va_iast hx hb hK hP hD hS 1 0 rfl rfl (kin_lit (j := 10) (n := 1203) (by decide) (by decide)) dX4_setPlaces_131 (fun H locs hP hD hS => ?_)
            have hP : va_P D vwCl (mdW cI am (va_up (va_up (va_up (va_up M34.1 0 g35) 0 g36) 0 g37) 0 (upd g37 10 x4), M34.2)) H := hP
            have hD : va_D A (mdW cI am (va_up (va_up (va_up (va_up M34.1 0 g35) 0 g36) 0 g37) 0 (upd g37 10 x4), M34.2)) := hD
            generalize eg38 : upd g37 10 x4 = g38 at hR hP hD
            replace hR := bnd_e hR
            refine lv_aload_n hx hb dX4_setPlaces_132 rfl (lv_at hl 2 rfl) ?_
            refine va_get (D := D) (ci := 4) (v := .ref (am 1)) (C := RX4) (T := TX4) (N := 8) hx hb hts hinX4 hown hK hP 0 rfl rfl 0 (by decide) q1 (fun _ h9 => h9) rfl dX4_setPlaces_133 ?_
            refine lv_bipush (v := 11) hx hb dX4_setPlaces_136 (by decide) ?_
            refine lv_iload hx hb dX4_setPlaces_138 (lv_at hl 7 rfl) ?_
            refine va_iast hx hb hK hP hD hS 1 0 rfl rfl (kin_lit (j := 11) (n := 1203) (by decide) (by decide)) dX4_setPlaces_140 (fun H locs hP hD hS => ?_)
            have hP : va_P D vwCl (mdW cI am (va_up (va_up (va_up (va_up (va_up M34.1 0 g35) 0 g36) 0 g37) 0 g38) 0 (upd g38 11 x5), M34.2)) H := hP
            have hD : va_D A (mdW cI am (va_up (va_up (va_up (va_up (va_up M34.1 0 g35) 0 g36) 0 g37) 0 g38) 0 (upd g38 11 x5), M34.2)) := hD
            generalize eg39 : upd g38 11 x5 = g39 at hR hP hD
            replace hR := bnd_e hR
            refine lv_iload hx hb dX4_setPlaces_141 (lv_at hl 0 rfl) ?_
            subst hR
            exact krI hx hb hr hlk hP hD hS dX4_setPlaces_143 rfl rfl
          · rw [if_neg c33] at hR hF
            refine lv_iconst (v := 0) hx hb dX4_setPlaces_84 (by decide) ?_
            subst hR
            exact krI hx hb hr hlk hP hD hS dX4_setPlaces_85 rfl rfl
        · rw [if_neg c31] at hR hF
          refine lv_iload hx hb dX4_setPlaces_21 (lv_at hl 4 rfl) ?_
          refine lv_iload hx hb dX4_setPlaces_23 (lv_at hl 5 rfl) ?_
          refine lv_icmp_ge (tgt := 40) hx hb dX4_setPlaces_25 (by decide) (fun c41 => ?_) (fun c41 => ?_)
          · rw [if_pos c41] at hR hF
            refine lv_iconst (v := 0) hx hb dX4_setPlaces_40 (by decide) ?_
            refine lv_istore (lv' := [(6, .int 0), (0, .ref (am 0)), (1, .int x1), (2, .int x2), (3, .int x3), (4, .int x4), (5, .int x5)]) hx hb dX4_setPlaces_41 hl (by decide) rfl (fun ls hl => ?_)
            refine lv_aload_n hx hb dX4_setPlaces_43 rfl (lv_at hl 1 rfl) ?_
            refine lv_iload hx hb dX4_setPlaces_44 (lv_at hl 0 rfl) ?_
            refine lv_if_ne (tgt := 53) hx hb dX4_setPlaces_46 (by decide) (fun c => absurd (by decide) c) (fun _ => ?_)
            refine lv_iconst (v := 1) hx hb dX4_setPlaces_49 (by decide) ?_
            refine lv_goto (tgt := 78) hx hb dX4_setPlaces_50 (by decide) ?_
            refine kcI (ci := 4) (q0 := 0) (As := [.int 1]) (rest := []) E.1 (cx4_refused E am M 1) hX (cwV 1 hts gX4_setPlaces_X4_refused rfl rfl rfl hdX4_refused ⟨Nat.le_of_ble_eq_true rfl, Nat.le_of_ble_eq_true rfl⟩) hKs hK hP hD hS hA _ _ (kw_self _) (kw_self _).symm rfl rfl rfl rfl hl.1 (Nat.le_of_ble_eq_true rfl) dX4_setPlaces_78 ⟨Nat.zero_le _, Nat.zero_le _⟩ (fun H locs hP hD hS => ?_)
            have hP : va_P D vwCl (mdW cI am ((fx4_refused M 1).2)) H := hP
            have hD : va_D A (mdW cI am ((fx4_refused M 1).2)) := hD
            generalize eu42 : fx4_refused M 1 = u42 at hR hF hP hD ⊢
            replace hR := bnd_e hR
            replace hF := bnd_p hF
            refine lv_if_eq (tgt := 86) hx hb dX4_setPlaces_81 (by decide) (fun c43 => ?_) (fun c43 => ?_)
            · rw [if_pos c43] at hR hF
              refine lv_aload_n hx hb dX4_setPlaces_86 rfl (lv_at hl 1 rfl) ?_
              have hs50 := hF
              refine kcV (ci := 4) (q0 := 0) (As := []) (rest := []) E.1 (cx4_saves E am u42.2 hs50) hX (cwV 0 hts gX4_setPlaces_X4_saves rfl rfl rfl hdX4_saves ⟨Nat.le_of_ble_eq_true rfl, Nat.le_of_ble_eq_true rfl⟩) hKs hK hP hD hS hA _ _ (kw_self _) (kw_self _).symm rfl rfl rfl rfl hl.1 (Nat.le_of_ble_eq_true rfl) dX4_setPlaces_87 ⟨Nat.zero_le _, Nat.zero_le _⟩ (fun H locs hP hD hS => ?_)
              have hP : va_P D vwCl (mdW cI am (fx4_saves u42.2)) H := hP
              have hD : va_D A (mdW cI am (fx4_saves u42.2)) := hD
              generalize eM44 : fx4_saves u42.2 = M44 at hR hP hD
              replace hR := bnd_e hR
              refine lv_aload_n hx hb dX4_setPlaces_90 rfl (lv_at hl 1 rfl) ?_
              refine va_get (D := D) (ci := 4) (v := .ref (am 1)) (C := RX4) (T := TX4) (N := 8) hx hb hts hinX4 hown hK hP 0 rfl rfl 0 (by decide) q1 (fun _ h9 => h9) rfl dX4_setPlaces_91 ?_
              refine lv_bipush (v := 11) hx hb dX4_setPlaces_94 (by decide) ?_
              refine va_iald hx hb hK hP 1 0 rfl rfl (kin_lit (j := 11) (n := 1203) (by decide) (by decide)) dX4_setPlaces_96 ?_
              refine kw_top (v := .int ((M44.1 0) 11)) rfl ?_
              refine lv_istore (lv' := [(7, .int ((M44.1 0) 11)), (6, .int 0), (0, .ref (am 0)), (1, .int x1), (2, .int x2), (3, .int x3), (4, .int x4), (5, .int x5)]) hx hb dX4_setPlaces_97 hl (by decide) rfl (fun ls hl => ?_)
              refine lv_aload_n hx hb dX4_setPlaces_99 rfl (lv_at hl 2 rfl) ?_
              refine va_get (D := D) (ci := 4) (v := .ref (am 1)) (C := RX4) (T := TX4) (N := 8) hx hb hts hinX4 hown hK hP 0 rfl rfl 0 (by decide) q1 (fun _ h9 => h9) rfl dX4_setPlaces_100 ?_
              refine lv_bipush (v := 7) hx hb dX4_setPlaces_103 (by decide) ?_
              refine lv_iload_n hx hb dX4_setPlaces_105 rfl (lv_at hl 3 rfl) ?_
              refine va_iast hx hb hK hP hD hS 1 0 rfl rfl (kin_lit (j := 7) (n := 1203) (by decide) (by decide)) dX4_setPlaces_106 (fun H locs hP hD hS => ?_)
              have hP : va_P D vwCl (mdW cI am (va_up M44.1 0 (upd (M44.1 0) 7 x1), M44.2)) H := hP
              have hD : va_D A (mdW cI am (va_up M44.1 0 (upd (M44.1 0) 7 x1), M44.2)) := hD
              generalize eg45 : upd (M44.1 0) 7 x1 = g45 at hR hP hD
              replace hR := bnd_e hR
              refine lv_aload_n hx hb dX4_setPlaces_107 rfl (lv_at hl 2 rfl) ?_
              refine va_get (D := D) (ci := 4) (v := .ref (am 1)) (C := RX4) (T := TX4) (N := 8) hx hb hts hinX4 hown hK hP 0 rfl rfl 0 (by decide) q1 (fun _ h9 => h9) rfl dX4_setPlaces_108 ?_
              refine lv_bipush (v := 8) hx hb dX4_setPlaces_111 (by decide) ?_
              refine lv_iload_n hx hb dX4_setPlaces_113 rfl (lv_at hl 4 rfl) ?_
              refine va_iast hx hb hK hP hD hS 1 0 rfl rfl (kin_lit (j := 8) (n := 1203) (by decide) (by decide)) dX4_setPlaces_114 (fun H locs hP hD hS => ?_)
              have hP : va_P D vwCl (mdW cI am (va_up (va_up M44.1 0 g45) 0 (upd g45 8 x2), M44.2)) H := hP
              have hD : va_D A (mdW cI am (va_up (va_up M44.1 0 g45) 0 (upd g45 8 x2), M44.2)) := hD
              generalize eg46 : upd g45 8 x2 = g46 at hR hP hD
              replace hR := bnd_e hR
              refine lv_aload_n hx hb dX4_setPlaces_115 rfl (lv_at hl 2 rfl) ?_
              refine va_get (D := D) (ci := 4) (v := .ref (am 1)) (C := RX4) (T := TX4) (N := 8) hx hb hts hinX4 hown hK hP 0 rfl rfl 0 (by decide) q1 (fun _ h9 => h9) rfl dX4_setPlaces_116 ?_
              refine lv_bipush (v := 9) hx hb dX4_setPlaces_119 (by decide) ?_
              refine lv_iload_n hx hb dX4_setPlaces_121 rfl (lv_at hl 5 rfl) ?_
              refine va_iast hx hb hK hP hD hS 1 0 rfl rfl (kin_lit (j := 9) (n := 1203) (by decide) (by decide)) dX4_setPlaces_122 (fun H locs hP hD hS => ?_)
              have hP : va_P D vwCl (mdW cI am (va_up (va_up (va_up M44.1 0 g45) 0 g46) 0 (upd g46 9 x3), M44.2)) H := hP
              have hD : va_D A (mdW cI am (va_up (va_up (va_up M44.1 0 g45) 0 g46) 0 (upd g46 9 x3), M44.2)) := hD
              generalize eg47 : upd g46 9 x3 = g47 at hR hP hD
              replace hR := bnd_e hR
              refine lv_aload_n hx hb dX4_setPlaces_123 rfl (lv_at hl 2 rfl) ?_
              refine va_get (D := D) (ci := 4) (v := .ref (am 1)) (C := RX4) (T := TX4) (N := 8) hx hb hts hinX4 hown hK hP 0 rfl rfl 0 (by decide) q1 (fun _ h9 => h9) rfl dX4_setPlaces_124 ?_
              refine lv_bipush (v := 10) hx hb dX4_setPlaces_127 (by decide) ?_
              refine lv_iload hx hb dX4_setPlaces_129 (lv_at hl 6 rfl) ?_
              refine va_iast hx hb hK hP hD hS 1 0 rfl rfl (kin_lit (j := 10) (n := 1203) (by decide) (by decide)) dX4_setPlaces_131 (fun H locs hP hD hS => ?_)
              have hP : va_P D vwCl (mdW cI am (va_up (va_up (va_up (va_up M44.1 0 g45) 0 g46) 0 g47) 0 (upd g47 10 x4), M44.2)) H := hP
              have hD : va_D A (mdW cI am (va_up (va_up (va_up (va_up M44.1 0 g45) 0 g46) 0 g47) 0 (upd g47 10 x4), M44.2)) := hD
              generalize eg48 : upd g47 10 x4 = g48 at hR hP hD
              replace hR := bnd_e hR
              refine lv_aload_n hx hb dX4_setPlaces_132 rfl (lv_at hl 2 rfl) ?_
              refine va_get (D := D) (ci := 4) (v := .ref (am 1)) (C := RX4) (T := TX4) (N := 8) hx hb hts hinX4 hown hK hP 0 rfl rfl 0 (by decide) q1 (fun _ h9 => h9) rfl dX4_setPlaces_133 ?_
              refine lv_bipush (v := 11) hx hb dX4_setPlaces_136 (by decide) ?_
              refine lv_iload hx hb dX4_setPlaces_138 (lv_at hl 7 rfl) ?_
              refine va_iast hx hb hK hP hD hS 1 0 rfl rfl (kin_lit (j := 11) (n := 1203) (by decide) (by decide)) dX4_setPlaces_140 (fun H locs hP hD hS => ?_)
              have hP : va_P D vwCl (mdW cI am (va_up (va_up (va_up (va_up (va_up M44.1 0 g45) 0 g46) 0 g47) 0 g48) 0 (upd g48 11 x5), M44.2)) H := hP
              have hD : va_D A (mdW cI am (va_up (va_up (va_up (va_up (va_up M44.1 0 g45) 0 g46) 0 g47) 0 g48) 0 (upd g48 11 x5), M44.2)) := hD
              generalize eg49 : upd g48 11 x5 = g49 at hR hP hD
              replace hR := bnd_e hR
              refine lv_iload hx hb dX4_setPlaces_141 (lv_at hl 0 rfl) ?_
              subst hR
              exact krI hx hb hr hlk hP hD hS dX4_setPlaces_143 rfl rfl
            · rw [if_neg c43] at hR hF
              refine lv_iconst (v := 0) hx hb dX4_setPlaces_84 (by decide) ?_
              subst hR
              exact krI hx hb hr hlk hP hD hS dX4_setPlaces_85 rfl rfl
          · rw [if_neg c41] at hR hF
            refine lv_iload hx hb dX4_setPlaces_28 (lv_at hl 5 rfl) ?_
            refine lv_sipush (v := 1000) hx hb dX4_setPlaces_30 (by decide) ?_
            refine lv_icmp_gt (tgt := 40) hx hb dX4_setPlaces_33 (by decide) (fun c51 => ?_) (fun c51 => ?_)
            · rw [if_pos c51] at hR hF
              refine lv_iconst (v := 0) hx hb dX4_setPlaces_40 (by decide) ?_
              refine lv_istore (lv' := [(6, .int 0), (0, .ref (am 0)), (1, .int x1), (2, .int x2), (3, .int x3), (4, .int x4), (5, .int x5)]) hx hb dX4_setPlaces_41 hl (by decide) rfl (fun ls hl => ?_)
              refine lv_aload_n hx hb dX4_setPlaces_43 rfl (lv_at hl 1 rfl) ?_
              refine lv_iload hx hb dX4_setPlaces_44 (lv_at hl 0 rfl) ?_
              refine lv_if_ne (tgt := 53) hx hb dX4_setPlaces_46 (by decide) (fun c => absurd (by decide) c) (fun _ => ?_)
              refine lv_iconst (v := 1) hx hb dX4_setPlaces_49 (by decide) ?_
              refine lv_goto (tgt := 78) hx hb dX4_setPlaces_50 (by decide) ?_
              refine kcI (ci := 4) (q0 := 0) (As := [.int 1]) (rest := []) E.1 (cx4_refused E am M 1) hX (cwV 1 hts gX4_setPlaces_X4_refused rfl rfl rfl hdX4_refused ⟨Nat.le_of_ble_eq_true rfl, Nat.le_of_ble_eq_true rfl⟩) hKs hK hP hD hS hA _ _ (kw_self _) (kw_self _).symm rfl rfl rfl rfl hl.1 (Nat.le_of_ble_eq_true rfl) dX4_setPlaces_78 ⟨Nat.zero_le _, Nat.zero_le _⟩ (fun H locs hP hD hS => ?_)
              have hP : va_P D vwCl (mdW cI am ((fx4_refused M 1).2)) H := hP
              have hD : va_D A (mdW cI am ((fx4_refused M 1).2)) := hD
              generalize eu52 : fx4_refused M 1 = u52 at hR hF hP hD ⊢
              replace hR := bnd_e hR
              replace hF := bnd_p hF
              refine lv_if_eq (tgt := 86) hx hb dX4_setPlaces_81 (by decide) (fun c53 => ?_) (fun c53 => ?_)
              · rw [if_pos c53] at hR hF
                refine lv_aload_n hx hb dX4_setPlaces_86 rfl (lv_at hl 1 rfl) ?_
                have hs60 := hF
                refine kcV (ci := 4) (q0 := 0) (As := []) (rest := []) E.1 (cx4_saves E am u52.2 hs60) hX (cwV 0 hts gX4_setPlaces_X4_saves rfl rfl rfl hdX4_saves ⟨Nat.le_of_ble_eq_true rfl, Nat.le_of_ble_eq_true rfl⟩) hKs hK hP hD hS hA _ _ (kw_self _) (kw_self _).symm rfl rfl rfl rfl hl.1 (Nat.le_of_ble_eq_true rfl) dX4_setPlaces_87 ⟨Nat.zero_le _, Nat.zero_le _⟩ (fun H locs hP hD hS => ?_)
                have hP : va_P D vwCl (mdW cI am (fx4_saves u52.2)) H := hP
                have hD : va_D A (mdW cI am (fx4_saves u52.2)) := hD
                generalize eM54 : fx4_saves u52.2 = M54 at hR hP hD
                replace hR := bnd_e hR
                refine lv_aload_n hx hb dX4_setPlaces_90 rfl (lv_at hl 1 rfl) ?_
                refine va_get (D := D) (ci := 4) (v := .ref (am 1)) (C := RX4) (T := TX4) (N := 8) hx hb hts hinX4 hown hK hP 0 rfl rfl 0 (by decide) q1 (fun _ h9 => h9) rfl dX4_setPlaces_91 ?_
                refine lv_bipush (v := 11) hx hb dX4_setPlaces_94 (by decide) ?_
                refine va_iald hx hb hK hP 1 0 rfl rfl (kin_lit (j := 11) (n := 1203) (by decide) (by decide)) dX4_setPlaces_96 ?_
                refine kw_top (v := .int ((M54.1 0) 11)) rfl ?_
                refine lv_istore (lv' := [(7, .int ((M54.1 0) 11)), (6, .int 0), (0, .ref (am 0)), (1, .int x1), (2, .int x2), (3, .int x3), (4, .int x4), (5, .int x5)]) hx hb dX4_setPlaces_97 hl (by decide) rfl (fun ls hl => ?_)
                refine lv_aload_n hx hb dX4_setPlaces_99 rfl (lv_at hl 2 rfl) ?_
                refine va_get (D := D) (ci := 4) (v := .ref (am 1)) (C := RX4) (T := TX4) (N := 8) hx hb hts hinX4 hown hK hP 0 rfl rfl 0 (by decide) q1 (fun _ h9 => h9) rfl dX4_setPlaces_100 ?_
                refine lv_bipush (v := 7) hx hb dX4_setPlaces_103 (by decide) ?_
                refine lv_iload_n hx hb dX4_setPlaces_105 rfl (lv_at hl 3 rfl) ?_
                refine va_iast hx hb hK hP hD hS 1 0 rfl rfl (kin_lit (j := 7) (n := 1203) (by decide) (by decide)) dX4_setPlaces_106 (fun H locs hP hD hS => ?_)
                have hP : va_P D vwCl (mdW cI am (va_up M54.1 0 (upd (M54.1 0) 7 x1), M54.2)) H := hP
                have hD : va_D A (mdW cI am (va_up M54.1 0 (upd (M54.1 0) 7 x1), M54.2)) := hD
                generalize eg55 : upd (M54.1 0) 7 x1 = g55 at hR hP hD
                replace hR := bnd_e hR
                refine lv_aload_n hx hb dX4_setPlaces_107 rfl (lv_at hl 2 rfl) ?_
                refine va_get (D := D) (ci := 4) (v := .ref (am 1)) (C := RX4) (T := TX4) (N := 8) hx hb hts hinX4 hown hK hP 0 rfl rfl 0 (by decide) q1 (fun _ h9 => h9) rfl dX4_setPlaces_108 ?_
                refine lv_bipush (v := 8) hx hb dX4_setPlaces_111 (by decide) ?_
                refine lv_iload_n hx hb dX4_setPlaces_113 rfl (lv_at hl 4 rfl) ?_
                refine va_iast hx hb hK hP hD hS 1 0 rfl rfl (kin_lit (j := 8) (n := 1203) (by decide) (by decide)) dX4_setPlaces_114 (fun H locs hP hD hS => ?_)
                have hP : va_P D vwCl (mdW cI am (va_up (va_up M54.1 0 g55) 0 (upd g55 8 x2), M54.2)) H := hP
                have hD : va_D A (mdW cI am (va_up (va_up M54.1 0 g55) 0 (upd g55 8 x2), M54.2)) := hD
                generalize eg56 : upd g55 8 x2 = g56 at hR hP hD
                replace hR := bnd_e hR
                refine lv_aload_n hx hb dX4_setPlaces_115 rfl (lv_at hl 2 rfl) ?_
                refine va_get (D := D) (ci := 4) (v := .ref (am 1)) (C := RX4) (T := TX4) (N := 8) hx hb hts hinX4 hown hK hP 0 rfl rfl 0 (by decide) q1 (fun _ h9 => h9) rfl dX4_setPlaces_116 ?_
                refine lv_bipush (v := 9) hx hb dX4_setPlaces_119 (by decide) ?_
                refine lv_iload_n hx hb dX4_setPlaces_121 rfl (lv_at hl 5 rfl) ?_
                refine va_iast hx hb hK hP hD hS 1 0 rfl rfl (kin_lit (j := 9) (n := 1203) (by decide) (by decide)) dX4_setPlaces_122 (fun H locs hP hD hS => ?_)
                have hP : va_P D vwCl (mdW cI am (va_up (va_up (va_up M54.1 0 g55) 0 g56) 0 (upd g56 9 x3), M54.2)) H := hP
                have hD : va_D A (mdW cI am (va_up (va_up (va_up M54.1 0 g55) 0 g56) 0 (upd g56 9 x3), M54.2)) := hD
                generalize eg57 : upd g56 9 x3 = g57 at hR hP hD
                replace hR := bnd_e hR
                refine lv_aload_n hx hb dX4_setPlaces_123 rfl (lv_at hl 2 rfl) ?_
                refine va_get (D := D) (ci := 4) (v := .ref (am 1)) (C := RX4) (T := TX4) (N := 8) hx hb hts hinX4 hown hK hP 0 rfl rfl 0 (by decide) q1 (fun _ h9 => h9) rfl dX4_setPlaces_124 ?_
                refine lv_bipush (v := 10) hx hb dX4_setPlaces_127 (by decide) ?_
                refine lv_iload hx hb dX4_setPlaces_129 (lv_at hl 6 rfl) ?_
                refine va_iast hx hb hK hP hD hS 1 0 rfl rfl (kin_lit (j := 10) (n := 1203) (by decide) (by decide)) dX4_setPlaces_131 (fun H locs hP hD hS => ?_)
                have hP : va_P D vwCl (mdW cI am (va_up (va_up (va_up (va_up M54.1 0 g55) 0 g56) 0 g57) 0 (upd g57 10 x4), M54.2)) H := hP
                have hD : va_D A (mdW cI am (va_up (va_up (va_up (va_up M54.1 0 g55) 0 g56) 0 g57) 0 (upd g57 10 x4), M54.2)) := hD
                generalize eg58 : upd g57 10 x4 = g58 at hR hP hD
                replace hR := bnd_e hR
                refine lv_aload_n hx hb dX4_setPlaces_132 rfl (lv_at hl 2 rfl) ?_
                refine va_get (D := D) (ci := 4) (v := .ref (am 1)) (C := RX4) (T := TX4) (N := 8) hx hb hts hinX4 hown hK hP 0 rfl rfl 0 (by decide) q1 (fun _ h9 => h9) rfl dX4_setPlaces_133 ?_
                refine lv_bipush (v := 11) hx hb dX4_setPlaces_136 (by decide) ?_
                refine lv_iload hx hb dX4_setPlaces_138 (lv_at hl 7 rfl) ?_
                refine va_iast hx hb hK hP hD hS 1 0 rfl rfl (kin_lit (j := 11) (n := 1203) (by decide) (by decide)) dX4_setPlaces_140 (fun H locs hP hD hS => ?_)
                have hP : va_P D vwCl (mdW cI am (va_up (va_up (va_up (va_up (va_up M54.1 0 g55) 0 g56) 0 g57) 0 g58) 0 (upd g58 11 x5), M54.2)) H := hP
                have hD : va_D A (mdW cI am (va_up (va_up (va_up (va_up (va_up M54.1 0 g55) 0 g56) 0 g57) 0 g58) 0 (upd g58 11 x5), M54.2)) := hD
                generalize eg59 : upd g58 11 x5 = g59 at hR hP hD
                replace hR := bnd_e hR
                refine lv_iload hx hb dX4_setPlaces_141 (lv_at hl 0 rfl) ?_
                subst hR
                exact krI hx hb hr hlk hP hD hS dX4_setPlaces_143 rfl rfl
              · rw [if_neg c53] at hR hF
                refine lv_iconst (v := 0) hx hb dX4_setPlaces_84 (by decide) ?_
                subst hR
                exact krI hx hb hr hlk hP hD hS dX4_setPlaces_85 rfl rfl
            · rw [if_neg c51] at hR hF
              refine lv_iconst (v := 1) hx hb dX4_setPlaces_36 (by decide) ?_
              refine lv_goto (tgt := 41) hx hb dX4_setPlaces_37 (by decide) ?_
              refine lv_istore (lv' := [(6, .int 1), (0, .ref (am 0)), (1, .int x1), (2, .int x2), (3, .int x3), (4, .int x4), (5, .int x5)]) hx hb dX4_setPlaces_41 hl (by decide) rfl (fun ls hl => ?_)
              refine lv_aload_n hx hb dX4_setPlaces_43 rfl (lv_at hl 1 rfl) ?_
              refine lv_iload hx hb dX4_setPlaces_44 (lv_at hl 0 rfl) ?_
              refine lv_if_ne (tgt := 53) hx hb dX4_setPlaces_46 (by decide) (fun _ => ?_) (fun c => absurd c (by decide))
              refine lv_aload_n hx hb dX4_setPlaces_53 rfl (lv_at hl 1 rfl) ?_
              refine va_get (D := D) (ci := 4) (v := .ref (am 1)) (C := RX4) (T := TX4) (N := 8) hx hb hts hinX4 hown hK hP 0 rfl rfl 0 (by decide) q1 (fun _ h9 => h9) rfl dX4_setPlaces_54 ?_
              refine lv_bipush (v := 36) hx hb dX4_setPlaces_57 (by decide) ?_
              refine va_iald hx hb hK hP 1 0 rfl rfl (kin_lit (j := 36) (n := 1203) (by decide) (by decide)) dX4_setPlaces_59 ?_
              refine kw_top (v := .int ((M.1 0) 36)) rfl ?_
              refine lv_if_gt (tgt := 73) hx hb dX4_setPlaces_60 (by decide) (fun c61 => ?_) (fun c61 => ?_)
              · rw [if_pos c61] at hR hF
                refine lv_iconst (v := 2) hx hb dX4_setPlaces_73 (by decide) ?_
                refine lv_goto (tgt := 78) hx hb dX4_setPlaces_74 (by decide) ?_
                refine kcI (ci := 4) (q0 := 0) (As := [.int 2]) (rest := []) E.1 (cx4_refused E am M 2) hX (cwV 1 hts gX4_setPlaces_X4_refused rfl rfl rfl hdX4_refused ⟨Nat.le_of_ble_eq_true rfl, Nat.le_of_ble_eq_true rfl⟩) hKs hK hP hD hS hA _ _ (kw_self _) (kw_self _).symm rfl rfl rfl rfl hl.1 (Nat.le_of_ble_eq_true rfl) dX4_setPlaces_78 ⟨Nat.zero_le _, Nat.zero_le _⟩ (fun H locs hP hD hS => ?_)
                have hP : va_P D vwCl (mdW cI am ((fx4_refused M 2).2)) H := hP
                have hD : va_D A (mdW cI am ((fx4_refused M 2).2)) := hD
                generalize eu62 : fx4_refused M 2 = u62 at hR hF hP hD ⊢
                replace hR := bnd_e hR
                replace hF := bnd_p hF
                refine lv_if_eq (tgt := 86) hx hb dX4_setPlaces_81 (by decide) (fun c63 => ?_) (fun c63 => ?_)
                · rw [if_pos c63] at hR hF
                  refine lv_aload_n hx hb dX4_setPlaces_86 rfl (lv_at hl 1 rfl) ?_
                  have hs70 := hF
                  refine kcV (ci := 4) (q0 := 0) (As := []) (rest := []) E.1 (cx4_saves E am u62.2 hs70) hX (cwV 0 hts gX4_setPlaces_X4_saves rfl rfl rfl hdX4_saves ⟨Nat.le_of_ble_eq_true rfl, Nat.le_of_ble_eq_true rfl⟩) hKs hK hP hD hS hA _ _ (kw_self _) (kw_self _).symm rfl rfl rfl rfl hl.1 (Nat.le_of_ble_eq_true rfl) dX4_setPlaces_87 ⟨Nat.zero_le _, Nat.zero_le _⟩ (fun H locs hP hD hS => ?_)
                  have hP : va_P D vwCl (mdW cI am (fx4_saves u62.2)) H := hP
                  have hD : va_D A (mdW cI am (fx4_saves u62.2)) := hD
                  generalize eM64 : fx4_saves u62.2 = M64 at hR hP hD
                  replace hR := bnd_e hR
                  refine lv_aload_n hx hb dX4_setPlaces_90 rfl (lv_at hl 1 rfl) ?_
                  refine va_get (D := D) (ci := 4) (v := .ref (am 1)) (C := RX4) (T := TX4) (N := 8) hx hb hts hinX4 hown hK hP 0 rfl rfl 0 (by decide) q1 (fun _ h9 => h9) rfl dX4_setPlaces_91 ?_
                  refine lv_bipush (v := 11) hx hb dX4_setPlaces_94 (by decide) ?_
                  refine va_iald hx hb hK hP 1 0 rfl rfl (kin_lit (j := 11) (n := 1203) (by decide) (by decide)) dX4_setPlaces_96 ?_
                  refine kw_top (v := .int ((M64.1 0) 11)) rfl ?_
                  refine lv_istore (lv' := [(7, .int ((M64.1 0) 11)), (6, .int 1), (0, .ref (am 0)), (1, .int x1), (2, .int x2), (3, .int x3), (4, .int x4), (5, .int x5)]) hx hb dX4_setPlaces_97 hl (by decide) rfl (fun ls hl => ?_)
                  refine lv_aload_n hx hb dX4_setPlaces_99 rfl (lv_at hl 2 rfl) ?_
                  refine va_get (D := D) (ci := 4) (v := .ref (am 1)) (C := RX4) (T := TX4) (N := 8) hx hb hts hinX4 hown hK hP 0 rfl rfl 0 (by decide) q1 (fun _ h9 => h9) rfl dX4_setPlaces_100 ?_
                  refine lv_bipush (v := 7) hx hb dX4_setPlaces_103 (by decide) ?_
                  refine lv_iload_n hx hb dX4_setPlaces_105 rfl (lv_at hl 3 rfl) ?_
                  refine va_iast hx hb hK hP hD hS 1 0 rfl rfl (kin_lit (j := 7) (n := 1203) (by decide) (by decide)) dX4_setPlaces_106 (fun H locs hP hD hS => ?_)
                  have hP : va_P D vwCl (mdW cI am (va_up M64.1 0 (upd (M64.1 0) 7 x1), M64.2)) H := hP
                  have hD : va_D A (mdW cI am (va_up M64.1 0 (upd (M64.1 0) 7 x1), M64.2)) := hD
                  generalize eg65 : upd (M64.1 0) 7 x1 = g65 at hR hP hD
                  replace hR := bnd_e hR
                  refine lv_aload_n hx hb dX4_setPlaces_107 rfl (lv_at hl 2 rfl) ?_
                  refine va_get (D := D) (ci := 4) (v := .ref (am 1)) (C := RX4) (T := TX4) (N := 8) hx hb hts hinX4 hown hK hP 0 rfl rfl 0 (by decide) q1 (fun _ h9 => h9) rfl dX4_setPlaces_108 ?_
                  refine lv_bipush (v := 8) hx hb dX4_setPlaces_111 (by decide) ?_
                  refine lv_iload_n hx hb dX4_setPlaces_113 rfl (lv_at hl 4 rfl) ?_
                  refine va_iast hx hb hK hP hD hS 1 0 rfl rfl (kin_lit (j := 8) (n := 1203) (by decide) (by decide)) dX4_setPlaces_114 (fun H locs hP hD hS => ?_)
                  have hP : va_P D vwCl (mdW cI am (va_up (va_up M64.1 0 g65) 0 (upd g65 8 x2), M64.2)) H := hP
                  have hD : va_D A (mdW cI am (va_up (va_up M64.1 0 g65) 0 (upd g65 8 x2), M64.2)) := hD
                  generalize eg66 : upd g65 8 x2 = g66 at hR hP hD
                  replace hR := bnd_e hR
                  refine lv_aload_n hx hb dX4_setPlaces_115 rfl (lv_at hl 2 rfl) ?_
                  refine va_get (D := D) (ci := 4) (v := .ref (am 1)) (C := RX4) (T := TX4) (N := 8) hx hb hts hinX4 hown hK hP 0 rfl rfl 0 (by decide) q1 (fun _ h9 => h9) rfl dX4_setPlaces_116 ?_
                  refine lv_bipush (v := 9) hx hb dX4_setPlaces_119 (by decide) ?_
                  refine lv_iload_n hx hb dX4_setPlaces_121 rfl (lv_at hl 5 rfl) ?_
                  refine va_iast hx hb hK hP hD hS 1 0 rfl rfl (kin_lit (j := 9) (n := 1203) (by decide) (by decide)) dX4_setPlaces_122 (fun H locs hP hD hS => ?_)
                  have hP : va_P D vwCl (mdW cI am (va_up (va_up (va_up M64.1 0 g65) 0 g66) 0 (upd g66 9 x3), M64.2)) H := hP
                  have hD : va_D A (mdW cI am (va_up (va_up (va_up M64.1 0 g65) 0 g66) 0 (upd g66 9 x3), M64.2)) := hD
                  generalize eg67 : upd g66 9 x3 = g67 at hR hP hD
                  replace hR := bnd_e hR
                  refine lv_aload_n hx hb dX4_setPlaces_123 rfl (lv_at hl 2 rfl) ?_
                  refine va_get (D := D) (ci := 4) (v := .ref (am 1)) (C := RX4) (T := TX4) (N := 8) hx hb hts hinX4 hown hK hP 0 rfl rfl 0 (by decide) q1 (fun _ h9 => h9) rfl dX4_setPlaces_124 ?_
                  refine lv_bipush (v := 10) hx hb dX4_setPlaces_127 (by decide) ?_
                  refine lv_iload hx hb dX4_setPlaces_129 (lv_at hl 6 rfl) ?_
                  refine va_iast hx hb hK hP hD hS 1 0 rfl rfl (kin_lit (j := 10) (n := 1203) (by decide) (by decide)) dX4_setPlaces_131 (fun H locs hP hD hS => ?_)
                  have hP : va_P D vwCl (mdW cI am (va_up (va_up (va_up (va_up M64.1 0 g65) 0 g66) 0 g67) 0 (upd g67 10 x4), M64.2)) H := hP
                  have hD : va_D A (mdW cI am (va_up (va_up (va_up (va_up M64.1 0 g65) 0 g66) 0 g67) 0 (upd g67 10 x4), M64.2)) := hD
                  generalize eg68 : upd g67 10 x4 = g68 at hR hP hD
                  replace hR := bnd_e hR
                  refine lv_aload_n hx hb dX4_setPlaces_132 rfl (lv_at hl 2 rfl) ?_
                  refine va_get (D := D) (ci := 4) (v := .ref (am 1)) (C := RX4) (T := TX4) (N := 8) hx hb hts hinX4 hown hK hP 0 rfl rfl 0 (by decide) q1 (fun _ h9 => h9) rfl dX4_setPlaces_133 ?_
                  refine lv_bipush (v := 11) hx hb dX4_setPlaces_136 (by decide) ?_
                  refine lv_iload hx hb dX4_setPlaces_138 (lv_at hl 7 rfl) ?_
                  refine va_iast hx hb hK hP hD hS 1 0 rfl rfl (kin_lit (j := 11) (n := 1203) (by decide) (by decide)) dX4_setPlaces_140 (fun H locs hP hD hS => ?_)
                  have hP : va_P D vwCl (mdW cI am (va_up (va_up (va_up (va_up (va_up M64.1 0 g65) 0 g66) 0 g67) 0 g68) 0 (upd g68 11 x5), M64.2)) H := hP
                  have hD : va_D A (mdW cI am (va_up (va_up (va_up (va_up (va_up M64.1 0 g65) 0 g66) 0 g67) 0 g68) 0 (upd g68 11 x5), M64.2)) := hD
                  generalize eg69 : upd g68 11 x5 = g69 at hR hP hD
                  replace hR := bnd_e hR
                  refine lv_iload hx hb dX4_setPlaces_141 (lv_at hl 0 rfl) ?_
                  subst hR
                  exact krI hx hb hr hlk hP hD hS dX4_setPlaces_143 rfl rfl
                · rw [if_neg c63] at hR hF
                  refine lv_iconst (v := 0) hx hb dX4_setPlaces_84 (by decide) ?_
                  subst hR
                  exact krI hx hb hr hlk hP hD hS dX4_setPlaces_85 rfl rfl
              · rw [if_neg c61] at hR hF
                refine lv_aload_n hx hb dX4_setPlaces_63 rfl (lv_at hl 1 rfl) ?_
                refine va_get (D := D) (ci := 4) (v := .ref (am 1)) (C := RX4) (T := TX4) (N := 8) hx hb hts hinX4 hown hK hP 0 rfl rfl 0 (by decide) q1 (fun _ h9 => h9) rfl dX4_setPlaces_64 ?_
                refine lv_bipush (v := 117) hx hb dX4_setPlaces_67 (by decide) ?_
                refine va_iald hx hb hK hP 1 0 rfl rfl (kin_lit (j := 117) (n := 1203) (by decide) (by decide)) dX4_setPlaces_69 ?_
                refine kw_top (v := .int ((M.1 0) 117)) rfl ?_
                refine lv_if_le (tgt := 77) hx hb dX4_setPlaces_70 (by decide) (fun c71 => ?_) (fun c71 => ?_)
                · rw [if_pos c71] at hR hF
                  refine lv_iconst (v := 0) hx hb dX4_setPlaces_77 (by decide) ?_
                  refine kcI (ci := 4) (q0 := 0) (As := [.int 0]) (rest := []) E.1 (cx4_refused E am M 0) hX (cwV 1 hts gX4_setPlaces_X4_refused rfl rfl rfl hdX4_refused ⟨Nat.le_of_ble_eq_true rfl, Nat.le_of_ble_eq_true rfl⟩) hKs hK hP hD hS hA _ _ (kw_self _) (kw_self _).symm rfl rfl rfl rfl hl.1 (Nat.le_of_ble_eq_true rfl) dX4_setPlaces_78 ⟨Nat.zero_le _, Nat.zero_le _⟩ (fun H locs hP hD hS => ?_)
                  have hP : va_P D vwCl (mdW cI am ((fx4_refused M 0).2)) H := hP
                  have hD : va_D A (mdW cI am ((fx4_refused M 0).2)) := hD
                  generalize eu72 : fx4_refused M 0 = u72 at hR hF hP hD ⊢
                  replace hR := bnd_e hR
                  replace hF := bnd_p hF
                  refine lv_if_eq (tgt := 86) hx hb dX4_setPlaces_81 (by decide) (fun c73 => ?_) (fun c73 => ?_)
                  · rw [if_pos c73] at hR hF
                    refine lv_aload_n hx hb dX4_setPlaces_86 rfl (lv_at hl 1 rfl) ?_
                    have hs80 := hF
                    refine kcV (ci := 4) (q0 := 0) (As := []) (rest := []) E.1 (cx4_saves E am u72.2 hs80) hX (cwV 0 hts gX4_setPlaces_X4_saves rfl rfl rfl hdX4_saves ⟨Nat.le_of_ble_eq_true rfl, Nat.le_of_ble_eq_true rfl⟩) hKs hK hP hD hS hA _ _ (kw_self _) (kw_self _).symm rfl rfl rfl rfl hl.1 (Nat.le_of_ble_eq_true rfl) dX4_setPlaces_87 ⟨Nat.zero_le _, Nat.zero_le _⟩ (fun H locs hP hD hS => ?_)
                    have hP : va_P D vwCl (mdW cI am (fx4_saves u72.2)) H := hP
                    have hD : va_D A (mdW cI am (fx4_saves u72.2)) := hD
                    generalize eM74 : fx4_saves u72.2 = M74 at hR hP hD
                    replace hR := bnd_e hR
                    refine lv_aload_n hx hb dX4_setPlaces_90 rfl (lv_at hl 1 rfl) ?_
                    refine va_get (D := D) (ci := 4) (v := .ref (am 1)) (C := RX4) (T := TX4) (N := 8) hx hb hts hinX4 hown hK hP 0 rfl rfl 0 (by decide) q1 (fun _ h9 => h9) rfl dX4_setPlaces_91 ?_
                    refine lv_bipush (v := 11) hx hb dX4_setPlaces_94 (by decide) ?_
                    refine va_iald hx hb hK hP 1 0 rfl rfl (kin_lit (j := 11) (n := 1203) (by decide) (by decide)) dX4_setPlaces_96 ?_
                    refine kw_top (v := .int ((M74.1 0) 11)) rfl ?_
                    refine lv_istore (lv' := [(7, .int ((M74.1 0) 11)), (6, .int 1), (0, .ref (am 0)), (1, .int x1), (2, .int x2), (3, .int x3), (4, .int x4), (5, .int x5)]) hx hb dX4_setPlaces_97 hl (by decide) rfl (fun ls hl => ?_)
                    refine lv_aload_n hx hb dX4_setPlaces_99 rfl (lv_at hl 2 rfl) ?_
                    refine va_get (D := D) (ci := 4) (v := .ref (am 1)) (C := RX4) (T := TX4) (N := 8) hx hb hts hinX4 hown hK hP 0 rfl rfl 0 (by decide) q1 (fun _ h9 => h9) rfl dX4_setPlaces_100 ?_
                    refine lv_bipush (v := 7) hx hb dX4_setPlaces_103 (by decide) ?_
                    refine lv_iload_n hx hb dX4_setPlaces_105 rfl (lv_at hl 3 rfl) ?_
                    refine va_iast hx hb hK hP hD hS 1 0 rfl rfl (kin_lit (j := 7) (n := 1203) (by decide) (by decide)) dX4_setPlaces_106 (fun H locs hP hD hS => ?_)
                    have hP : va_P D vwCl (mdW cI am (va_up M74.1 0 (upd (M74.1 0) 7 x1), M74.2)) H := hP
                    have hD : va_D A (mdW cI am (va_up M74.1 0 (upd (M74.1 0) 7 x1), M74.2)) := hD
                    generalize eg75 : upd (M74.1 0) 7 x1 = g75 at hR hP hD
                    replace hR := bnd_e hR
                    refine lv_aload_n hx hb dX4_setPlaces_107 rfl (lv_at hl 2 rfl) ?_
                    refine va_get (D := D) (ci := 4) (v := .ref (am 1)) (C := RX4) (T := TX4) (N := 8) hx hb hts hinX4 hown hK hP 0 rfl rfl 0 (by decide) q1 (fun _ h9 => h9) rfl dX4_setPlaces_108 ?_
                    refine lv_bipush (v := 8) hx hb dX4_setPlaces_111 (by decide) ?_
                    refine lv_iload_n hx hb dX4_setPlaces_113 rfl (lv_at hl 4 rfl) ?_
                    refine va_iast hx hb hK hP hD hS 1 0 rfl rfl (kin_lit (j := 8) (n := 1203) (by decide) (by decide)) dX4_setPlaces_114 (fun H locs hP hD hS => ?_)
                    have hP : va_P D vwCl (mdW cI am (va_up (va_up M74.1 0 g75) 0 (upd g75 8 x2), M74.2)) H := hP
                    have hD : va_D A (mdW cI am (va_up (va_up M74.1 0 g75) 0 (upd g75 8 x2), M74.2)) := hD
                    generalize eg76 : upd g75 8 x2 = g76 at hR hP hD
                    replace hR := bnd_e hR
                    refine lv_aload_n hx hb dX4_setPlaces_115 rfl (lv_at hl 2 rfl) ?_
                    refine va_get (D := D) (ci := 4) (v := .ref (am 1)) (C := RX4) (T := TX4) (N := 8) hx hb hts hinX4 hown hK hP 0 rfl rfl 0 (by decide) q1 (fun _ h9 => h9) rfl dX4_setPlaces_116 ?_
                    refine lv_bipush (v := 9) hx hb dX4_setPlaces_119 (by decide) ?_
                    refine lv_iload_n hx hb dX4_setPlaces_121 rfl (lv_at hl 5 rfl) ?_
                    refine va_iast hx hb hK hP hD hS 1 0 rfl rfl (kin_lit (j := 9) (n := 1203) (by decide) (by decide)) dX4_setPlaces_122 (fun H locs hP hD hS => ?_)
                    have hP : va_P D vwCl (mdW cI am (va_up (va_up (va_up M74.1 0 g75) 0 g76) 0 (upd g76 9 x3), M74.2)) H := hP
                    have hD : va_D A (mdW cI am (va_up (va_up (va_up M74.1 0 g75) 0 g76) 0 (upd g76 9 x3), M74.2)) := hD
                    generalize eg77 : upd g76 9 x3 = g77 at hR hP hD
                    replace hR := bnd_e hR
                    refine lv_aload_n hx hb dX4_setPlaces_123 rfl (lv_at hl 2 rfl) ?_
                    refine va_get (D := D) (ci := 4) (v := .ref (am 1)) (C := RX4) (T := TX4) (N := 8) hx hb hts hinX4 hown hK hP 0 rfl rfl 0 (by decide) q1 (fun _ h9 => h9) rfl dX4_setPlaces_124 ?_
                    refine lv_bipush (v := 10) hx hb dX4_setPlaces_127 (by decide) ?_
                    refine lv_iload hx hb dX4_setPlaces_129 (lv_at hl 6 rfl) ?_
                    refine va_iast hx hb hK hP hD hS 1 0 rfl rfl (kin_lit (j := 10) (n := 1203) (by decide) (by decide)) dX4_setPlaces_131 (fun H locs hP hD hS => ?_)
                    have hP : va_P D vwCl (mdW cI am (va_up (va_up (va_up (va_up M74.1 0 g75) 0 g76) 0 g77) 0 (upd g77 10 x4), M74.2)) H := hP
                    have hD : va_D A (mdW cI am (va_up (va_up (va_up (va_up M74.1 0 g75) 0 g76) 0 g77) 0 (upd g77 10 x4), M74.2)) := hD
                    generalize eg78 : upd g77 10 x4 = g78 at hR hP hD
                    replace hR := bnd_e hR
                    refine lv_aload_n hx hb dX4_setPlaces_132 rfl (lv_at hl 2 rfl) ?_
                    refine va_get (D := D) (ci := 4) (v := .ref (am 1)) (C := RX4) (T := TX4) (N := 8) hx hb hts hinX4 hown hK hP 0 rfl rfl 0 (by decide) q1 (fun _ h9 => h9) rfl dX4_setPlaces_133 ?_
                    refine lv_bipush (v := 11) hx hb dX4_setPlaces_136 (by decide) ?_
                    refine lv_iload hx hb dX4_setPlaces_138 (lv_at hl 7 rfl) ?_
                    refine va_iast hx hb hK hP hD hS 1 0 rfl rfl (kin_lit (j := 11) (n := 1203) (by decide) (by decide)) dX4_setPlaces_140 (fun H locs hP hD hS => ?_)
                    have hP : va_P D vwCl (mdW cI am (va_up (va_up (va_up (va_up (va_up M74.1 0 g75) 0 g76) 0 g77) 0 g78) 0 (upd g78 11 x5), M74.2)) H := hP
                    have hD : va_D A (mdW cI am (va_up (va_up (va_up (va_up (va_up M74.1 0 g75) 0 g76) 0 g77) 0 g78) 0 (upd g78 11 x5), M74.2)) := hD
                    generalize eg79 : upd g78 11 x5 = g79 at hR hP hD
                    replace hR := bnd_e hR
                    refine lv_iload hx hb dX4_setPlaces_141 (lv_at hl 0 rfl) ?_
                    subst hR
                    exact krI hx hb hr hlk hP hD hS dX4_setPlaces_143 rfl rfl
                  · rw [if_neg c73] at hR hF
                    refine lv_iconst (v := 0) hx hb dX4_setPlaces_84 (by decide) ?_
                    subst hR
                    exact krI hx hb hr hlk hP hD hS dX4_setPlaces_85 rfl rfl
                · rw [if_neg c71] at hR hF
                  refine lv_iconst (v := 2) hx hb dX4_setPlaces_73 (by decide) ?_
                  refine lv_goto (tgt := 78) hx hb dX4_setPlaces_74 (by decide) ?_
                  refine kcI (ci := 4) (q0 := 0) (As := [.int 2]) (rest := []) E.1 (cx4_refused E am M 2) hX (cwV 1 hts gX4_setPlaces_X4_refused rfl rfl rfl hdX4_refused ⟨Nat.le_of_ble_eq_true rfl, Nat.le_of_ble_eq_true rfl⟩) hKs hK hP hD hS hA _ _ (kw_self _) (kw_self _).symm rfl rfl rfl rfl hl.1 (Nat.le_of_ble_eq_true rfl) dX4_setPlaces_78 ⟨Nat.zero_le _, Nat.zero_le _⟩ (fun H locs hP hD hS => ?_)
                  have hP : va_P D vwCl (mdW cI am ((fx4_refused M 2).2)) H := hP
                  have hD : va_D A (mdW cI am ((fx4_refused M 2).2)) := hD
                  generalize eu81 : fx4_refused M 2 = u81 at hR hF hP hD ⊢
                  replace hR := bnd_e hR
                  replace hF := bnd_p hF
                  refine lv_if_eq (tgt := 86) hx hb dX4_setPlaces_81 (by decide) (fun c82 => ?_) (fun c82 => ?_)
                  · rw [if_pos c82] at hR hF
                    refine lv_aload_n hx hb dX4_setPlaces_86 rfl (lv_at hl 1 rfl) ?_
                    have hs89 := hF
                    refine kcV (ci := 4) (q0 := 0) (As := []) (rest := []) E.1 (cx4_saves E am u81.2 hs89) hX (cwV 0 hts gX4_setPlaces_X4_saves rfl rfl rfl hdX4_saves ⟨Nat.le_of_ble_eq_true rfl, Nat.le_of_ble_eq_true rfl⟩) hKs hK hP hD hS hA _ _ (kw_self _) (kw_self _).symm rfl rfl rfl rfl hl.1 (Nat.le_of_ble_eq_true rfl) dX4_setPlaces_87 ⟨Nat.zero_le _, Nat.zero_le _⟩ (fun H locs hP hD hS => ?_)
                    have hP : va_P D vwCl (mdW cI am (fx4_saves u81.2)) H := hP
                    have hD : va_D A (mdW cI am (fx4_saves u81.2)) := hD
                    generalize eM83 : fx4_saves u81.2 = M83 at hR hP hD
                    replace hR := bnd_e hR
                    refine lv_aload_n hx hb dX4_setPlaces_90 rfl (lv_at hl 1 rfl) ?_
                    refine va_get (D := D) (ci := 4) (v := .ref (am 1)) (C := RX4) (T := TX4) (N := 8) hx hb hts hinX4 hown hK hP 0 rfl rfl 0 (by decide) q1 (fun _ h9 => h9) rfl dX4_setPlaces_91 ?_
                    refine lv_bipush (v := 11) hx hb dX4_setPlaces_94 (by decide) ?_
                    refine va_iald hx hb hK hP 1 0 rfl rfl (kin_lit (j := 11) (n := 1203) (by decide) (by decide)) dX4_setPlaces_96 ?_
                    refine kw_top (v := .int ((M83.1 0) 11)) rfl ?_
                    refine lv_istore (lv' := [(7, .int ((M83.1 0) 11)), (6, .int 1), (0, .ref (am 0)), (1, .int x1), (2, .int x2), (3, .int x3), (4, .int x4), (5, .int x5)]) hx hb dX4_setPlaces_97 hl (by decide) rfl (fun ls hl => ?_)
                    refine lv_aload_n hx hb dX4_setPlaces_99 rfl (lv_at hl 2 rfl) ?_
                    refine va_get (D := D) (ci := 4) (v := .ref (am 1)) (C := RX4) (T := TX4) (N := 8) hx hb hts hinX4 hown hK hP 0 rfl rfl 0 (by decide) q1 (fun _ h9 => h9) rfl dX4_setPlaces_100 ?_
                    refine lv_bipush (v := 7) hx hb dX4_setPlaces_103 (by decide) ?_
                    refine lv_iload_n hx hb dX4_setPlaces_105 rfl (lv_at hl 3 rfl) ?_
                    refine va_iast hx hb hK hP hD hS 1 0 rfl rfl (kin_lit (j := 7) (n := 1203) (by decide) (by decide)) dX4_setPlaces_106 (fun H locs hP hD hS => ?_)
                    have hP : va_P D vwCl (mdW cI am (va_up M83.1 0 (upd (M83.1 0) 7 x1), M83.2)) H := hP
                    have hD : va_D A (mdW cI am (va_up M83.1 0 (upd (M83.1 0) 7 x1), M83.2)) := hD
                    generalize eg84 : upd (M83.1 0) 7 x1 = g84 at hR hP hD
                    replace hR := bnd_e hR
                    refine lv_aload_n hx hb dX4_setPlaces_107 rfl (lv_at hl 2 rfl) ?_
                    refine va_get (D := D) (ci := 4) (v := .ref (am 1)) (C := RX4) (T := TX4) (N := 8) hx hb hts hinX4 hown hK hP 0 rfl rfl 0 (by decide) q1 (fun _ h9 => h9) rfl dX4_setPlaces_108 ?_
                    refine lv_bipush (v := 8) hx hb dX4_setPlaces_111 (by decide) ?_
                    refine lv_iload_n hx hb dX4_setPlaces_113 rfl (lv_at hl 4 rfl) ?_
                    refine va_iast hx hb hK hP hD hS 1 0 rfl rfl (kin_lit (j := 8) (n := 1203) (by decide) (by decide)) dX4_setPlaces_114 (fun H locs hP hD hS => ?_)
                    have hP : va_P D vwCl (mdW cI am (va_up (va_up M83.1 0 g84) 0 (upd g84 8 x2), M83.2)) H := hP
                    have hD : va_D A (mdW cI am (va_up (va_up M83.1 0 g84) 0 (upd g84 8 x2), M83.2)) := hD
                    generalize eg85 : upd g84 8 x2 = g85 at hR hP hD
                    replace hR := bnd_e hR
                    refine lv_aload_n hx hb dX4_setPlaces_115 rfl (lv_at hl 2 rfl) ?_
                    refine va_get (D := D) (ci := 4) (v := .ref (am 1)) (C := RX4) (T := TX4) (N := 8) hx hb hts hinX4 hown hK hP 0 rfl rfl 0 (by decide) q1 (fun _ h9 => h9) rfl dX4_setPlaces_116 ?_
                    refine lv_bipush (v := 9) hx hb dX4_setPlaces_119 (by decide) ?_
                    refine lv_iload_n hx hb dX4_setPlaces_121 rfl (lv_at hl 5 rfl) ?_
                    refine va_iast hx hb hK hP hD hS 1 0 rfl rfl (kin_lit (j := 9) (n := 1203) (by decide) (by decide)) dX4_setPlaces_122 (fun H locs hP hD hS => ?_)
                    have hP : va_P D vwCl (mdW cI am (va_up (va_up (va_up M83.1 0 g84) 0 g85) 0 (upd g85 9 x3), M83.2)) H := hP
                    have hD : va_D A (mdW cI am (va_up (va_up (va_up M83.1 0 g84) 0 g85) 0 (upd g85 9 x3), M83.2)) := hD
                    generalize eg86 : upd g85 9 x3 = g86 at hR hP hD
                    replace hR := bnd_e hR
                    refine lv_aload_n hx hb dX4_setPlaces_123 rfl (lv_at hl 2 rfl) ?_
                    refine va_get (D := D) (ci := 4) (v := .ref (am 1)) (C := RX4) (T := TX4) (N := 8) hx hb hts hinX4 hown hK hP 0 rfl rfl 0 (by decide) q1 (fun _ h9 => h9) rfl dX4_setPlaces_124 ?_
                    refine lv_bipush (v := 10) hx hb dX4_setPlaces_127 (by decide) ?_
                    refine lv_iload hx hb dX4_setPlaces_129 (lv_at hl 6 rfl) ?_
                    refine va_iast hx hb hK hP hD hS 1 0 rfl rfl (kin_lit (j := 10) (n := 1203) (by decide) (by decide)) dX4_setPlaces_131 (fun H locs hP hD hS => ?_)
                    have hP : va_P D vwCl (mdW cI am (va_up (va_up (va_up (va_up M83.1 0 g84) 0 g85) 0 g86) 0 (upd g86 10 x4), M83.2)) H := hP
                    have hD : va_D A (mdW cI am (va_up (va_up (va_up (va_up M83.1 0 g84) 0 g85) 0 g86) 0 (upd g86 10 x4), M83.2)) := hD
                    generalize eg87 : upd g86 10 x4 = g87 at hR hP hD
                    replace hR := bnd_e hR
                    refine lv_aload_n hx hb dX4_setPlaces_132 rfl (lv_at hl 2 rfl) ?_
                    refine va_get (D := D) (ci := 4) (v := .ref (am 1)) (C := RX4) (T := TX4) (N := 8) hx hb hts hinX4 hown hK hP 0 rfl rfl 0 (by decide) q1 (fun _ h9 => h9) rfl dX4_setPlaces_133 ?_
                    refine lv_bipush (v := 11) hx hb dX4_setPlaces_136 (by decide) ?_
                    refine lv_iload hx hb dX4_setPlaces_138 (lv_at hl 7 rfl) ?_
                    refine va_iast hx hb hK hP hD hS 1 0 rfl rfl (kin_lit (j := 11) (n := 1203) (by decide) (by decide)) dX4_setPlaces_140 (fun H locs hP hD hS => ?_)
                    have hP : va_P D vwCl (mdW cI am (va_up (va_up (va_up (va_up (va_up M83.1 0 g84) 0 g85) 0 g86) 0 g87) 0 (upd g87 11 x5), M83.2)) H := hP
                    have hD : va_D A (mdW cI am (va_up (va_up (va_up (va_up (va_up M83.1 0 g84) 0 g85) 0 g86) 0 g87) 0 (upd g87 11 x5), M83.2)) := hD
                    generalize eg88 : upd g87 11 x5 = g88 at hR hP hD
                    replace hR := bnd_e hR
                    refine lv_iload hx hb dX4_setPlaces_141 (lv_at hl 0 rfl) ?_
                    subst hR
                    exact krI hx hb hr hlk hP hD hS dX4_setPlaces_143 rfl rfl
                  · rw [if_neg c82] at hR hF
                    refine lv_iconst (v := 0) hx hb dX4_setPlaces_84 (by decide) ?_
                    subst hR
                    exact krI hx hb hr hlk hP hD hS dX4_setPlaces_85 rfl rfl

theorem hdX4_set : yX4_set.cls = RX4 ∧ yX4_set.cls ≠ "java/lang/invoke/MethodHandle" ∧ yX4_set.cls ≠ "java/lang/invoke/VarHandle" ∧ (parseMethodDescriptor yX4_set.desc).map (fun d => d.parameters.length) = some 2 := by decide +kernel
def fx4_set (M : Md) (x1 : Int32) (x2 : Int32) : Int32 × (Md) := (bnd (fx4_isSetting x1 x2) (fun v1 => (if v1 = 0 then (bnd (fx4_refused M 1) (fun u3 => (if u3.1 = 0 then (bnd (fx4_saves u3.2) (fun M5 => (bnd (upd (M5.1 0) (x1).toNatClampNeg x2) (fun g8 => ((M5.1 0) (x1).toNatClampNeg, (va_up M5.1 0 g8, M5.2)))))) else (0, u3.2)))) else (bnd (fx4_refused M 0) (fun u10 => (if u10.1 = 0 then (bnd (fx4_saves u10.2) (fun M12 => (bnd (upd (M12.1 0) (x1).toNatClampNeg x2) (fun g15 => ((M12.1 0) (x1).toNatClampNeg, (va_up M12.1 0 g15, M12.2)))))) else (0, u10.2)))))))
def sx4_set (M : Md) (x1 : Int32) (x2 : Int32) : Prop := (sx4_isSetting x1 x2 ∧ (bnd (fx4_isSetting x1 x2) (fun v1 => (if v1 = 0 then (bnd (fx4_refused M 1) (fun u3 => (if u3.1 = 0 then (sx4_saves u3.2 ∧ (bnd (fx4_saves u3.2) (fun M5 => (vp_in (x1) 1203 ∧ vp_in (x1) 1203)))) else True))) else (bnd (fx4_refused M 0) (fun u10 => (if u10.1 = 0 then (sx4_saves u10.2 ∧ (bnd (fx4_saves u10.2) (fun M12 => (vp_in (x1) 1203 ∧ vp_in (x1) 1203)))) else True)))))))
set_option maxHeartbeats 4000000 in
set_option maxRecDepth 100000 in
theorem cx4_set {l : Launch} {D : va_G} {cI cB cS cJ : ClassId} {K : State → Prop} (E : kE D cI cB cS cJ K) (am : Nat → Nat) (M : Md) (x1 : Int32) (x2 : Int32) (hF : sx4_set M x1 x2) : kI l D K yX4_set wsX4_set 2 43 [.ref (am 0), .int x1, .int x2] (mdW cI am M) (fx4_set M x1 x2).1 (mdW cI am ((fx4_set M x1 x2).2)) := by
  refine kI_of (own := RX4) (cc := cX4_set) (maxL := 4) (tys := kty cI cB cS cJ) (fun U h => (E.2 U h).1) (by decide) rfl rfl (Nat.le_of_ble_eq_true rfl) ?_
  intro p e s m below meth c A ls hx hb hr hml hts hown hlk hKs hK hP hD hA hS hl
  have hl : lv_has ls 4 [(0, .ref (am 0)), (1, .int x1), (2, .int x2)] := hl
  have hX : CallFix p m c cX4_set 4 s _ wsX4_set RX4 := ⟨hx, hb, hml, hown, hts⟩
  have hinX4 : ∀ w ∈ wsX40, w ∈ wsX4_set := fun w h => List.mem_cons_of_mem _ (List.mem_append_right _ h)
  have q1 := hts (.fieldLink RX4 7 "LabelStationModel" "now" "[I") (List.mem_of_getElem? (i := 1) rfl)
  generalize hR : fx4_set M x1 x2 = R
  rw [fx4_set] at hR
  rw [sx4_set] at hF
  refine lv_aload_n hx hb dX4_set_0 rfl (lv_at hl 0 rfl) ?_
  refine lv_iload_n hx hb dX4_set_1 rfl (lv_at hl 1 rfl) ?_
  refine lv_iload_n hx hb dX4_set_2 rfl (lv_at hl 2 rfl) ?_
  obtain ⟨hs17, hF⟩ := hF
  refine kcsI (As := [.int x1, .int x2]) (rest := [.ref (am 0)]) E.1 (cx4_isSetting E x1 x2 hs17) hX (va_cwS 2 hts gX4_set_X4_isSetting rfl rfl rfl hdX4_isSetting.2 ⟨Nat.le_of_ble_eq_true rfl, Nat.le_of_ble_eq_true rfl⟩) hKs hP hD hS hA _ _ (kw_nil _) (kw_nil _).symm rfl rfl hl.1 (Nat.le_of_ble_eq_true rfl) dX4_set_3 ⟨Nat.zero_le _, Nat.zero_le _⟩ (fun H locs hP hD hS => ?_)
  generalize ev1 : fx4_isSetting x1 x2 = v1 at hR hF ⊢
  replace hR := bnd_e hR
  replace hF := bnd_p hF
  refine lv_if_eq (tgt := 13) hx hb dX4_set_6 (by decide) (fun c2 => ?_) (fun c2 => ?_)
  · rw [if_pos c2] at hR hF
    refine lv_iconst (v := 1) hx hb dX4_set_13 (by decide) ?_
    refine kcI (ci := 4) (q0 := 0) (As := [.int 1]) (rest := []) E.1 (cx4_refused E am M 1) hX (cwV 1 hts gX4_set_X4_refused rfl rfl rfl hdX4_refused ⟨Nat.le_of_ble_eq_true rfl, Nat.le_of_ble_eq_true rfl⟩) hKs hK hP hD hS hA _ _ (kw_self _) (kw_self _).symm rfl rfl rfl rfl hl.1 (Nat.le_of_ble_eq_true rfl) dX4_set_14 ⟨Nat.zero_le _, Nat.zero_le _⟩ (fun H locs hP hD hS => ?_)
    have hP : va_P D vwCl (mdW cI am ((fx4_refused M 1).2)) H := hP
    have hD : va_D A (mdW cI am ((fx4_refused M 1).2)) := hD
    generalize eu3 : fx4_refused M 1 = u3 at hR hF hP hD ⊢
    replace hR := bnd_e hR
    replace hF := bnd_p hF
    refine lv_if_eq (tgt := 22) hx hb dX4_set_17 (by decide) (fun c4 => ?_) (fun c4 => ?_)
    · rw [if_pos c4] at hR hF
      refine lv_aload_n hx hb dX4_set_22 rfl (lv_at hl 0 rfl) ?_
      obtain ⟨hs9, hF⟩ := hF
      refine kcV (ci := 4) (q0 := 0) (As := []) (rest := []) E.1 (cx4_saves E am u3.2 hs9) hX (cwV 0 hts gX4_set_X4_saves rfl rfl rfl hdX4_saves ⟨Nat.le_of_ble_eq_true rfl, Nat.le_of_ble_eq_true rfl⟩) hKs hK hP hD hS hA _ _ (kw_self _) (kw_self _).symm rfl rfl rfl rfl hl.1 (Nat.le_of_ble_eq_true rfl) dX4_set_23 ⟨Nat.zero_le _, Nat.zero_le _⟩ (fun H locs hP hD hS => ?_)
      have hP : va_P D vwCl (mdW cI am (fx4_saves u3.2)) H := hP
      have hD : va_D A (mdW cI am (fx4_saves u3.2)) := hD
      generalize eM5 : fx4_saves u3.2 = M5 at hR hF hP hD
      replace hR := bnd_e hR
      replace hF := bnd_p hF
      refine lv_aload_n hx hb dX4_set_26 rfl (lv_at hl 0 rfl) ?_
      refine va_get (D := D) (ci := 4) (v := .ref (am 1)) (C := RX4) (T := TX4) (N := 8) hx hb hts hinX4 hown hK hP 0 rfl rfl 0 (by decide) q1 (fun _ h9 => h9) rfl dX4_set_27 ?_
      refine lv_iload_n hx hb dX4_set_30 rfl (lv_at hl 1 rfl) ?_
      obtain ⟨hi6, hF⟩ := hF
      refine va_iald hx hb hK hP 1 0 rfl rfl hi6 dX4_set_31 ?_
      refine lv_istore_n (lv' := [(3, .int ((M5.1 0) (x1).toNatClampNeg)), (0, .ref (am 0)), (1, .int x1), (2, .int x2)]) hx hb dX4_set_32 rfl hl (by decide) rfl (fun ls hl => ?_)
      refine lv_aload_n hx hb dX4_set_33 rfl (lv_at hl 1 rfl) ?_
      refine va_get (D := D) (ci := 4) (v := .ref (am 1)) (C := RX4) (T := TX4) (N := 8) hx hb hts hinX4 hown hK hP 0 rfl rfl 0 (by decide) q1 (fun _ h9 => h9) rfl dX4_set_34 ?_
      refine lv_iload_n hx hb dX4_set_37 rfl (lv_at hl 2 rfl) ?_
      refine lv_iload_n hx hb dX4_set_38 rfl (lv_at hl 3 rfl) ?_
      have hi7 := hF
      refine va_iast hx hb hK hP hD hS 1 0 rfl rfl hi7 dX4_set_39 (fun H locs hP hD hS => ?_)
      have hP : va_P D vwCl (mdW cI am (va_up M5.1 0 (upd (M5.1 0) (x1).toNatClampNeg x2), M5.2)) H := hP
      have hD : va_D A (mdW cI am (va_up M5.1 0 (upd (M5.1 0) (x1).toNatClampNeg x2), M5.2)) := hD
      generalize eg8 : upd (M5.1 0) (x1).toNatClampNeg x2 = g8 at hR hP hD
      replace hR := bnd_e hR
      refine lv_iload_n hx hb dX4_set_40 rfl (lv_at hl 0 rfl) ?_
      subst hR
      exact krI hx hb hr hlk hP hD hS dX4_set_41 rfl rfl
    · rw [if_neg c4] at hR hF
      refine lv_iconst (v := 0) hx hb dX4_set_20 (by decide) ?_
      subst hR
      exact krI hx hb hr hlk hP hD hS dX4_set_21 rfl rfl
  · rw [if_neg c2] at hR hF
    refine lv_iconst (v := 0) hx hb dX4_set_9 (by decide) ?_
    refine lv_goto (tgt := 14) hx hb dX4_set_10 (by decide) ?_
    refine kcI (ci := 4) (q0 := 0) (As := [.int 0]) (rest := []) E.1 (cx4_refused E am M 0) hX (cwV 1 hts gX4_set_X4_refused rfl rfl rfl hdX4_refused ⟨Nat.le_of_ble_eq_true rfl, Nat.le_of_ble_eq_true rfl⟩) hKs hK hP hD hS hA _ _ (kw_self _) (kw_self _).symm rfl rfl rfl rfl hl.1 (Nat.le_of_ble_eq_true rfl) dX4_set_14 ⟨Nat.zero_le _, Nat.zero_le _⟩ (fun H locs hP hD hS => ?_)
    have hP : va_P D vwCl (mdW cI am ((fx4_refused M 0).2)) H := hP
    have hD : va_D A (mdW cI am ((fx4_refused M 0).2)) := hD
    generalize eu10 : fx4_refused M 0 = u10 at hR hF hP hD ⊢
    replace hR := bnd_e hR
    replace hF := bnd_p hF
    refine lv_if_eq (tgt := 22) hx hb dX4_set_17 (by decide) (fun c11 => ?_) (fun c11 => ?_)
    · rw [if_pos c11] at hR hF
      refine lv_aload_n hx hb dX4_set_22 rfl (lv_at hl 0 rfl) ?_
      obtain ⟨hs16, hF⟩ := hF
      refine kcV (ci := 4) (q0 := 0) (As := []) (rest := []) E.1 (cx4_saves E am u10.2 hs16) hX (cwV 0 hts gX4_set_X4_saves rfl rfl rfl hdX4_saves ⟨Nat.le_of_ble_eq_true rfl, Nat.le_of_ble_eq_true rfl⟩) hKs hK hP hD hS hA _ _ (kw_self _) (kw_self _).symm rfl rfl rfl rfl hl.1 (Nat.le_of_ble_eq_true rfl) dX4_set_23 ⟨Nat.zero_le _, Nat.zero_le _⟩ (fun H locs hP hD hS => ?_)
      have hP : va_P D vwCl (mdW cI am (fx4_saves u10.2)) H := hP
      have hD : va_D A (mdW cI am (fx4_saves u10.2)) := hD
      generalize eM12 : fx4_saves u10.2 = M12 at hR hF hP hD
      replace hR := bnd_e hR
      replace hF := bnd_p hF
      refine lv_aload_n hx hb dX4_set_26 rfl (lv_at hl 0 rfl) ?_
      refine va_get (D := D) (ci := 4) (v := .ref (am 1)) (C := RX4) (T := TX4) (N := 8) hx hb hts hinX4 hown hK hP 0 rfl rfl 0 (by decide) q1 (fun _ h9 => h9) rfl dX4_set_27 ?_
      refine lv_iload_n hx hb dX4_set_30 rfl (lv_at hl 1 rfl) ?_
      obtain ⟨hi13, hF⟩ := hF
      refine va_iald hx hb hK hP 1 0 rfl rfl hi13 dX4_set_31 ?_
      refine lv_istore_n (lv' := [(3, .int ((M12.1 0) (x1).toNatClampNeg)), (0, .ref (am 0)), (1, .int x1), (2, .int x2)]) hx hb dX4_set_32 rfl hl (by decide) rfl (fun ls hl => ?_)
      refine lv_aload_n hx hb dX4_set_33 rfl (lv_at hl 1 rfl) ?_
      refine va_get (D := D) (ci := 4) (v := .ref (am 1)) (C := RX4) (T := TX4) (N := 8) hx hb hts hinX4 hown hK hP 0 rfl rfl 0 (by decide) q1 (fun _ h9 => h9) rfl dX4_set_34 ?_
      refine lv_iload_n hx hb dX4_set_37 rfl (lv_at hl 2 rfl) ?_
      refine lv_iload_n hx hb dX4_set_38 rfl (lv_at hl 3 rfl) ?_
      have hi14 := hF
      refine va_iast hx hb hK hP hD hS 1 0 rfl rfl hi14 dX4_set_39 (fun H locs hP hD hS => ?_)
      have hP : va_P D vwCl (mdW cI am (va_up M12.1 0 (upd (M12.1 0) (x1).toNatClampNeg x2), M12.2)) H := hP
      have hD : va_D A (mdW cI am (va_up M12.1 0 (upd (M12.1 0) (x1).toNatClampNeg x2), M12.2)) := hD
      generalize eg15 : upd (M12.1 0) (x1).toNatClampNeg x2 = g15 at hR hP hD
      replace hR := bnd_e hR
      refine lv_iload_n hx hb dX4_set_40 rfl (lv_at hl 0 rfl) ?_
      subst hR
      exact krI hx hb hr hlk hP hD hS dX4_set_41 rfl rfl
    · rw [if_neg c11] at hR hF
      refine lv_iconst (v := 0) hx hb dX4_set_20 (by decide) ?_
      subst hR
      exact krI hx hb hr hlk hP hD hS dX4_set_21 rfl rfl

theorem hdX4_value : yX4_value.cls = RX4 ∧ yX4_value.cls ≠ "java/lang/invoke/MethodHandle" ∧ yX4_value.cls ≠ "java/lang/invoke/VarHandle" ∧ (parseMethodDescriptor yX4_value.desc).map (fun d => d.parameters.length) = some 1 := by decide +kernel
def fx4_value (M : Md) (x1 : Int32) : Int32 × (Md) := (if (fx4_within x1 0 12) = 0 then (bnd (fx4_refused M 1) (fun u2 => (if u2.1 = 0 then ((u2.2.1 0) (x1).toNatClampNeg, u2.2) else (0, u2.2)))) else (bnd (fx4_refused M 0) (fun u5 => (if u5.1 = 0 then ((u5.2.1 0) (x1).toNatClampNeg, u5.2) else (0, u5.2)))))
def sx4_value (M : Md) (x1 : Int32) : Prop := (if (fx4_within x1 0 12) = 0 then (bnd (fx4_refused M 1) (fun u2 => (if u2.1 = 0 then vp_in (x1) 1203 else True))) else (bnd (fx4_refused M 0) (fun u5 => (if u5.1 = 0 then vp_in (x1) 1203 else True))))
set_option maxHeartbeats 4000000 in
set_option maxRecDepth 100000 in
theorem cx4_value {l : Launch} {D : va_G} {cI cB cS cJ : ClassId} {K : State → Prop} (E : kE D cI cB cS cJ K) (am : Nat → Nat) (M : Md) (x1 : Int32) (hF : sx4_value M x1) : kI l D K yX4_value wsX4_value 1 22 [.ref (am 0), .int x1] (mdW cI am M) (fx4_value M x1).1 (mdW cI am ((fx4_value M x1).2)) := by
  refine kI_of (own := RX4) (cc := cX4_value) (maxL := 2) (tys := kty cI cB cS cJ) (fun U h => (E.2 U h).1) (by decide) rfl rfl (Nat.le_of_ble_eq_true rfl) ?_
  intro p e s m below meth c A ls hx hb hr hml hts hown hlk hKs hK hP hD hA hS hl
  have hl : lv_has ls 2 [(0, .ref (am 0)), (1, .int x1)] := hl
  have hX : CallFix p m c cX4_value 2 s _ wsX4_value RX4 := ⟨hx, hb, hml, hown, hts⟩
  have hinX4 : ∀ w ∈ wsX40, w ∈ wsX4_value := fun w h => List.mem_cons_of_mem _ (List.mem_append_right _ h)
  have q1 := hts (.fieldLink RX4 7 "LabelStationModel" "now" "[I") (List.mem_of_getElem? (i := 1) rfl)
  generalize hR : fx4_value M x1 = R
  rw [fx4_value] at hR
  rw [sx4_value] at hF
  refine lv_aload_n hx hb dX4_value_0 rfl (lv_at hl 0 rfl) ?_
  refine lv_iload_n hx hb dX4_value_1 rfl (lv_at hl 1 rfl) ?_
  refine lv_iconst (v := 0) hx hb dX4_value_2 (by decide) ?_
  refine lv_bipush (v := 12) hx hb dX4_value_3 (by decide) ?_
  refine kcsI (As := [.int x1, .int 0, .int 12]) (rest := [.ref (am 0)]) E.1 (cx4_within E x1 0 12) hX (va_cwS 3 hts gX4_value_X4_within rfl rfl rfl hdX4_within.2 ⟨Nat.le_of_ble_eq_true rfl, Nat.le_of_ble_eq_true rfl⟩) hKs hP hD hS hA _ _ (kw_nil _) (kw_nil _).symm rfl rfl hl.1 (Nat.le_of_ble_eq_true rfl) dX4_value_5 ⟨Nat.zero_le _, Nat.zero_le _⟩ (fun H locs hP hD hS => ?_)
  refine lv_if_eq (tgt := 15) hx hb dX4_value_8 (by decide) (fun c1 => ?_) (fun c1 => ?_)
  · rw [if_pos c1] at hR hF
    refine lv_iconst (v := 1) hx hb dX4_value_15 (by decide) ?_
    refine kcI (ci := 4) (q0 := 0) (As := [.int 1]) (rest := []) E.1 (cx4_refused E am M 1) hX (cwV 1 hts gX4_value_X4_refused rfl rfl rfl hdX4_refused ⟨Nat.le_of_ble_eq_true rfl, Nat.le_of_ble_eq_true rfl⟩) hKs hK hP hD hS hA _ _ (kw_self _) (kw_self _).symm rfl rfl rfl rfl hl.1 (Nat.le_of_ble_eq_true rfl) dX4_value_16 ⟨Nat.zero_le _, Nat.zero_le _⟩ (fun H locs hP hD hS => ?_)
    have hP : va_P D vwCl (mdW cI am ((fx4_refused M 1).2)) H := hP
    have hD : va_D A (mdW cI am ((fx4_refused M 1).2)) := hD
    generalize eu2 : fx4_refused M 1 = u2 at hR hF hP hD ⊢
    replace hR := bnd_e hR
    replace hF := bnd_p hF
    refine lv_if_eq (tgt := 26) hx hb dX4_value_19 (by decide) (fun c3 => ?_) (fun c3 => ?_)
    · rw [if_pos c3] at hR hF
      refine lv_aload_n hx hb dX4_value_26 rfl (lv_at hl 0 rfl) ?_
      refine va_get (D := D) (ci := 4) (v := .ref (am 1)) (C := RX4) (T := TX4) (N := 8) hx hb hts hinX4 hown hK hP 0 rfl rfl 0 (by decide) q1 (fun _ h9 => h9) rfl dX4_value_27 ?_
      refine lv_iload_n hx hb dX4_value_30 rfl (lv_at hl 1 rfl) ?_
      have hi4 := hF
      refine va_iald hx hb hK hP 1 0 rfl rfl hi4 dX4_value_31 ?_
      subst hR
      exact krI hx hb hr hlk hP hD hS dX4_value_32 rfl rfl
    · rw [if_neg c3] at hR hF
      refine lv_iconst (v := 0) hx hb dX4_value_22 (by decide) ?_
      refine lv_goto (tgt := 32) hx hb dX4_value_23 (by decide) ?_
      subst hR
      exact krI hx hb hr hlk hP hD hS dX4_value_32 rfl rfl
  · rw [if_neg c1] at hR hF
    refine lv_iconst (v := 0) hx hb dX4_value_11 (by decide) ?_
    refine lv_goto (tgt := 16) hx hb dX4_value_12 (by decide) ?_
    refine kcI (ci := 4) (q0 := 0) (As := [.int 0]) (rest := []) E.1 (cx4_refused E am M 0) hX (cwV 1 hts gX4_value_X4_refused rfl rfl rfl hdX4_refused ⟨Nat.le_of_ble_eq_true rfl, Nat.le_of_ble_eq_true rfl⟩) hKs hK hP hD hS hA _ _ (kw_self _) (kw_self _).symm rfl rfl rfl rfl hl.1 (Nat.le_of_ble_eq_true rfl) dX4_value_16 ⟨Nat.zero_le _, Nat.zero_le _⟩ (fun H locs hP hD hS => ?_)
    have hP : va_P D vwCl (mdW cI am ((fx4_refused M 0).2)) H := hP
    have hD : va_D A (mdW cI am ((fx4_refused M 0).2)) := hD
    generalize eu5 : fx4_refused M 0 = u5 at hR hF hP hD ⊢
    replace hR := bnd_e hR
    replace hF := bnd_p hF
    refine lv_if_eq (tgt := 26) hx hb dX4_value_19 (by decide) (fun c6 => ?_) (fun c6 => ?_)
    · rw [if_pos c6] at hR hF
      refine lv_aload_n hx hb dX4_value_26 rfl (lv_at hl 0 rfl) ?_
      refine va_get (D := D) (ci := 4) (v := .ref (am 1)) (C := RX4) (T := TX4) (N := 8) hx hb hts hinX4 hown hK hP 0 rfl rfl 0 (by decide) q1 (fun _ h9 => h9) rfl dX4_value_27 ?_
      refine lv_iload_n hx hb dX4_value_30 rfl (lv_at hl 1 rfl) ?_
      have hi7 := hF
      refine va_iald hx hb hK hP 1 0 rfl rfl hi7 dX4_value_31 ?_
      subst hR
      exact krI hx hb hr hlk hP hD hS dX4_value_32 rfl rfl
    · rw [if_neg c6] at hR hF
      refine lv_iconst (v := 0) hx hb dX4_value_22 (by decide) ?_
      refine lv_goto (tgt := 32) hx hb dX4_value_23 (by decide) ?_
      subst hR
      exact krI hx hb hr hlk hP hD hS dX4_value_32 rfl rfl

theorem hdX4_jam : yX4_jam.cls = RX4 ∧ yX4_jam.cls ≠ "java/lang/invoke/MethodHandle" ∧ yX4_jam.cls ≠ "java/lang/invoke/VarHandle" ∧ (parseMethodDescriptor yX4_jam.desc).map (fun d => d.parameters.length) = some 1 := by decide +kernel
def fx4_jam (M : Md) (x1 : Int32) : Int32 × (Md) := (bnd (fx4_saves (sset M.1 4 1 0, M.2)) (fun M1 => (if ((M1.1 0) 13) = 1 then (if x1 = 0 then (bnd (upd (M1.1 0) 13 0) (fun g4 => (1, (va_up M1.1 0 g4, M1.2)))) else (bnd (upd (M1.1 0) 13 1) (fun g5 => (1, (va_up M1.1 0 g5, M1.2))))) else (if x1 = 0 then (bnd (upd (M1.1 0) 13 0) (fun g7 => (0, (va_up M1.1 0 g7, M1.2)))) else (bnd (upd (M1.1 0) 13 1) (fun g8 => (0, (va_up M1.1 0 g8, M1.2))))))))
def sx4_jam (M : Md) (x1 : Int32) : Prop := sx4_saves (sset M.1 4 1 0, M.2)
set_option maxHeartbeats 4000000 in
set_option maxRecDepth 100000 in
theorem cx4_jam {l : Launch} {D : va_G} {cI cB cS cJ : ClassId} {K : State → Prop} (E : kE D cI cB cS cJ K) (am : Nat → Nat) (M : Md) (x1 : Int32) (hF : sx4_jam M x1) : kI l D K yX4_jam wsX4_jam 1 21 [.ref (am 0), .int x1] (mdW cI am M) (fx4_jam M x1).1 (mdW cI am ((fx4_jam M x1).2)) := by
  refine kI_of (own := RX4) (cc := cX4_jam) (maxL := 3) (tys := kty cI cB cS cJ) (fun U h => (E.2 U h).1) (by decide) rfl rfl (Nat.le_of_ble_eq_true rfl) ?_
  intro p e s m below meth c A ls hx hb hr hml hts hown hlk hKs hK hP hD hA hS hl
  have hl : lv_has ls 3 [(0, .ref (am 0)), (1, .int x1)] := hl
  have hX : CallFix p m c cX4_jam 3 s _ wsX4_jam RX4 := ⟨hx, hb, hml, hown, hts⟩
  have hinX4 : ∀ w ∈ wsX40, w ∈ wsX4_jam := fun w h => List.mem_cons_of_mem _ (List.mem_append_right _ h)
  have q1 := hts (.fieldLink RX4 22 "LabelStationModel" "refusal" "I") (List.mem_of_getElem? (i := 1) rfl)
  have q2 := hts (.fieldLink RX4 7 "LabelStationModel" "now" "[I") (List.mem_of_getElem? (i := 2) rfl)
  generalize hR : fx4_jam M x1 = R
  rw [fx4_jam] at hR
  rw [sx4_jam] at hF
  refine lv_aload_n hx hb dX4_jam_0 rfl (lv_at hl 0 rfl) ?_
  refine lv_iconst (v := 0) hx hb dX4_jam_1 (by decide) ?_
  refine va_put (D := D) (ci := 4) (v := .int 0) (ty := .int) (C := RX4) (T := TX4) (N := 8) hx hb hts hinX4 tyX4 tyX4_ok nmX4 hown hK hP hD hS 0 rfl rfl 4 (by decide) q1 (fun _ h9 => h9) rfl (by decide +kernel) rfl rfl (Nat.le_of_ble_eq_true rfl) dX4_jam_2 (fun H locs hP hD hS => ?_)
  have hP : va_P D vwCl (mdW cI am (sset M.1 4 1 0, M.2)) H := hP
  have hD : va_D A (mdW cI am (sset M.1 4 1 0, M.2)) := hD
  refine lv_aload_n hx hb dX4_jam_5 rfl (lv_at hl 0 rfl) ?_
  have hs9 := hF
  refine kcV (ci := 4) (q0 := 0) (As := []) (rest := []) E.1 (cx4_saves E am (sset M.1 4 1 0, M.2) hs9) hX (cwV 0 hts gX4_jam_X4_saves rfl rfl rfl hdX4_saves ⟨Nat.le_of_ble_eq_true rfl, Nat.le_of_ble_eq_true rfl⟩) hKs hK hP hD hS hA _ _ (kw_self _) (kw_self _).symm rfl rfl rfl rfl hl.1 (Nat.le_of_ble_eq_true rfl) dX4_jam_6 ⟨Nat.zero_le _, Nat.zero_le _⟩ (fun H locs hP hD hS => ?_)
  have hP : va_P D vwCl (mdW cI am (fx4_saves (sset M.1 4 1 0, M.2))) H := hP
  have hD : va_D A (mdW cI am (fx4_saves (sset M.1 4 1 0, M.2))) := hD
  generalize eM1 : fx4_saves (sset M.1 4 1 0, M.2) = M1 at hR hP hD
  replace hR := bnd_e hR
  refine lv_aload_n hx hb dX4_jam_9 rfl (lv_at hl 0 rfl) ?_
  refine va_get (D := D) (ci := 4) (v := .ref (am 1)) (C := RX4) (T := TX4) (N := 8) hx hb hts hinX4 hown hK hP 0 rfl rfl 0 (by decide) q2 (fun _ h9 => h9) rfl dX4_jam_10 ?_
  refine lv_bipush (v := 13) hx hb dX4_jam_13 (by decide) ?_
  refine va_iald hx hb hK hP 1 0 rfl rfl (kin_lit (j := 13) (n := 1203) (by decide) (by decide)) dX4_jam_15 ?_
  refine kw_top (v := .int ((M1.1 0) 13)) rfl ?_
  refine lv_iconst (v := 1) hx hb dX4_jam_16 (by decide) ?_
  refine lv_icmp_ne (tgt := 24) hx hb dX4_jam_17 (by decide) (fun c2 => ?_) (fun c2 => ?_)
  · rw [if_neg c2] at hR
    refine lv_iconst (v := 0) hx hb dX4_jam_24 (by decide) ?_
    refine lv_istore_n (lv' := [(2, .int 0), (0, .ref (am 0)), (1, .int x1)]) hx hb dX4_jam_25 rfl hl (by decide) rfl (fun ls hl => ?_)
    refine lv_aload_n hx hb dX4_jam_26 rfl (lv_at hl 1 rfl) ?_
    refine va_get (D := D) (ci := 4) (v := .ref (am 1)) (C := RX4) (T := TX4) (N := 8) hx hb hts hinX4 hown hK hP 0 rfl rfl 0 (by decide) q2 (fun _ h9 => h9) rfl dX4_jam_27 ?_
    refine lv_bipush (v := 13) hx hb dX4_jam_30 (by decide) ?_
    refine lv_iload_n hx hb dX4_jam_32 rfl (lv_at hl 2 rfl) ?_
    refine lv_if_eq (tgt := 40) hx hb dX4_jam_33 (by decide) (fun c6 => ?_) (fun c6 => ?_)
    · rw [if_pos c6] at hR
      refine lv_iconst (v := 0) hx hb dX4_jam_40 (by decide) ?_
      refine va_iast hx hb hK hP hD hS 1 0 rfl rfl (kin_lit (j := 13) (n := 1203) (by decide) (by decide)) dX4_jam_41 (fun H locs hP hD hS => ?_)
      have hP : va_P D vwCl (mdW cI am (va_up M1.1 0 (upd (M1.1 0) 13 0), M1.2)) H := hP
      have hD : va_D A (mdW cI am (va_up M1.1 0 (upd (M1.1 0) 13 0), M1.2)) := hD
      generalize eg7 : upd (M1.1 0) 13 0 = g7 at hR hP hD
      replace hR := bnd_e hR
      refine lv_iload_n hx hb dX4_jam_42 rfl (lv_at hl 0 rfl) ?_
      subst hR
      exact krZ hx hb hr hlk hP hD hS dX4_jam_43 (by decide) rfl rfl
    · rw [if_neg c6] at hR
      refine lv_iconst (v := 1) hx hb dX4_jam_36 (by decide) ?_
      refine lv_goto (tgt := 41) hx hb dX4_jam_37 (by decide) ?_
      refine va_iast hx hb hK hP hD hS 1 0 rfl rfl (kin_lit (j := 13) (n := 1203) (by decide) (by decide)) dX4_jam_41 (fun H locs hP hD hS => ?_)
      have hP : va_P D vwCl (mdW cI am (va_up M1.1 0 (upd (M1.1 0) 13 1), M1.2)) H := hP
      have hD : va_D A (mdW cI am (va_up M1.1 0 (upd (M1.1 0) 13 1), M1.2)) := hD
      generalize eg8 : upd (M1.1 0) 13 1 = g8 at hR hP hD
      replace hR := bnd_e hR
      refine lv_iload_n hx hb dX4_jam_42 rfl (lv_at hl 0 rfl) ?_
      subst hR
      exact krZ hx hb hr hlk hP hD hS dX4_jam_43 (by decide) rfl rfl
  · rw [if_pos c2] at hR
    refine lv_iconst (v := 1) hx hb dX4_jam_20 (by decide) ?_
    refine lv_goto (tgt := 25) hx hb dX4_jam_21 (by decide) ?_
    refine lv_istore_n (lv' := [(2, .int 1), (0, .ref (am 0)), (1, .int x1)]) hx hb dX4_jam_25 rfl hl (by decide) rfl (fun ls hl => ?_)
    refine lv_aload_n hx hb dX4_jam_26 rfl (lv_at hl 1 rfl) ?_
    refine va_get (D := D) (ci := 4) (v := .ref (am 1)) (C := RX4) (T := TX4) (N := 8) hx hb hts hinX4 hown hK hP 0 rfl rfl 0 (by decide) q2 (fun _ h9 => h9) rfl dX4_jam_27 ?_
    refine lv_bipush (v := 13) hx hb dX4_jam_30 (by decide) ?_
    refine lv_iload_n hx hb dX4_jam_32 rfl (lv_at hl 2 rfl) ?_
    refine lv_if_eq (tgt := 40) hx hb dX4_jam_33 (by decide) (fun c3 => ?_) (fun c3 => ?_)
    · rw [if_pos c3] at hR
      refine lv_iconst (v := 0) hx hb dX4_jam_40 (by decide) ?_
      refine va_iast hx hb hK hP hD hS 1 0 rfl rfl (kin_lit (j := 13) (n := 1203) (by decide) (by decide)) dX4_jam_41 (fun H locs hP hD hS => ?_)
      have hP : va_P D vwCl (mdW cI am (va_up M1.1 0 (upd (M1.1 0) 13 0), M1.2)) H := hP
      have hD : va_D A (mdW cI am (va_up M1.1 0 (upd (M1.1 0) 13 0), M1.2)) := hD
      generalize eg4 : upd (M1.1 0) 13 0 = g4 at hR hP hD
      replace hR := bnd_e hR
      refine lv_iload_n hx hb dX4_jam_42 rfl (lv_at hl 0 rfl) ?_
      subst hR
      exact krZ hx hb hr hlk hP hD hS dX4_jam_43 (by decide) rfl rfl
    · rw [if_neg c3] at hR
      refine lv_iconst (v := 1) hx hb dX4_jam_36 (by decide) ?_
      refine lv_goto (tgt := 41) hx hb dX4_jam_37 (by decide) ?_
      refine va_iast hx hb hK hP hD hS 1 0 rfl rfl (kin_lit (j := 13) (n := 1203) (by decide) (by decide)) dX4_jam_41 (fun H locs hP hD hS => ?_)
      have hP : va_P D vwCl (mdW cI am (va_up M1.1 0 (upd (M1.1 0) 13 1), M1.2)) H := hP
      have hD : va_D A (mdW cI am (va_up M1.1 0 (upd (M1.1 0) 13 1), M1.2)) := hD
      generalize eg5 : upd (M1.1 0) 13 1 = g5 at hR hP hD
      replace hR := bnd_e hR
      refine lv_iload_n hx hb dX4_jam_42 rfl (lv_at hl 0 rfl) ?_
      subst hR
      exact krZ hx hb hr hlk hP hD hS dX4_jam_43 (by decide) rfl rfl

theorem hdX4_start : yX4_start.cls = RX4 ∧ yX4_start.cls ≠ "java/lang/invoke/MethodHandle" ∧ yX4_start.cls ≠ "java/lang/invoke/VarHandle" ∧ (parseMethodDescriptor yX4_start.desc).map (fun d => d.parameters.length) = some 0 := by decide +kernel
def fx4_start (M : Md) : Int32 × (Md) := (if ((M.1 0) 15) = 1 then (bnd (fx4_refused M 1) (fun u2 => (if u2.1 = 0 then (bnd (fx4_saves u2.2) (fun M4 => (bnd (upd (M4.1 0) 15 1) (fun g5 => (g5 36, (va_up M4.1 0 g5, M4.2)))))) else (0, u2.2)))) else (if ((M.1 0) 16) = 0 then (bnd (fx4_refused M 0) (fun u8 => (if u8.1 = 0 then (bnd (fx4_saves u8.2) (fun M10 => (bnd (upd (M10.1 0) 15 1) (fun g11 => (g11 36, (va_up M10.1 0 g11, M10.2)))))) else (0, u8.2)))) else (bnd (fx4_refused M 1) (fun u13 => (if u13.1 = 0 then (bnd (fx4_saves u13.2) (fun M15 => (bnd (upd (M15.1 0) 15 1) (fun g16 => (g16 36, (va_up M15.1 0 g16, M15.2)))))) else (0, u13.2))))))
def sx4_start (M : Md) : Prop := (if ((M.1 0) 15) = 1 then (bnd (fx4_refused M 1) (fun u2 => (if u2.1 = 0 then sx4_saves u2.2 else True))) else (if ((M.1 0) 16) = 0 then (bnd (fx4_refused M 0) (fun u8 => (if u8.1 = 0 then sx4_saves u8.2 else True))) else (bnd (fx4_refused M 1) (fun u13 => (if u13.1 = 0 then sx4_saves u13.2 else True)))))
set_option maxHeartbeats 4000000 in
set_option maxRecDepth 100000 in
theorem cx4_start {l : Launch} {D : va_G} {cI cB cS cJ : ClassId} {K : State → Prop} (E : kE D cI cB cS cJ K) (am : Nat → Nat) (M : Md) (hF : sx4_start M) : kI l D K yX4_start wsX4_start 1 21 [.ref (am 0)] (mdW cI am M) (fx4_start M).1 (mdW cI am ((fx4_start M).2)) := by
  refine kI_of (own := RX4) (cc := cX4_start) (maxL := 1) (tys := kty cI cB cS cJ) (fun U h => (E.2 U h).1) (by decide) rfl rfl (Nat.le_of_ble_eq_true rfl) ?_
  intro p e s m below meth c A ls hx hb hr hml hts hown hlk hKs hK hP hD hA hS hl
  have hl : lv_has ls 1 [(0, .ref (am 0))] := hl
  have hX : CallFix p m c cX4_start 1 s _ wsX4_start RX4 := ⟨hx, hb, hml, hown, hts⟩
  have hinX4 : ∀ w ∈ wsX40, w ∈ wsX4_start := fun w h => List.mem_cons_of_mem _ (List.mem_append_right _ h)
  have q1 := hts (.fieldLink RX4 7 "LabelStationModel" "now" "[I") (List.mem_of_getElem? (i := 1) rfl)
  generalize hR : fx4_start M = R
  rw [fx4_start] at hR
  rw [sx4_start] at hF
  refine lv_aload_n hx hb dX4_start_0 rfl (lv_at hl 0 rfl) ?_
  refine lv_aload_n hx hb dX4_start_1 rfl (lv_at hl 0 rfl) ?_
  refine va_get (D := D) (ci := 4) (v := .ref (am 1)) (C := RX4) (T := TX4) (N := 8) hx hb hts hinX4 hown hK hP 0 rfl rfl 0 (by decide) q1 (fun _ h9 => h9) rfl dX4_start_2 ?_
  refine lv_bipush (v := 15) hx hb dX4_start_5 (by decide) ?_
  refine va_iald hx hb hK hP 1 0 rfl rfl (kin_lit (j := 15) (n := 1203) (by decide) (by decide)) dX4_start_7 ?_
  refine kw_top (v := .int ((M.1 0) 15)) rfl ?_
  refine lv_iconst (v := 1) hx hb dX4_start_8 (by decide) ?_
  refine lv_icmp_eq (tgt := 22) hx hb dX4_start_9 (by decide) (fun c1 => ?_) (fun c1 => ?_)
  · rw [if_pos c1] at hR hF
    refine lv_iconst (v := 1) hx hb dX4_start_22 (by decide) ?_
    refine lv_goto (tgt := 27) hx hb dX4_start_23 (by decide) ?_
    refine kcI (ci := 4) (q0 := 0) (As := [.int 1]) (rest := []) E.1 (cx4_refused E am M 1) hX (cwV 1 hts gX4_start_X4_refused rfl rfl rfl hdX4_refused ⟨Nat.le_of_ble_eq_true rfl, Nat.le_of_ble_eq_true rfl⟩) hKs hK hP hD hS hA _ _ (kw_self _) (kw_self _).symm rfl rfl rfl rfl hl.1 (Nat.le_of_ble_eq_true rfl) dX4_start_27 ⟨Nat.zero_le _, Nat.zero_le _⟩ (fun H locs hP hD hS => ?_)
    have hP : va_P D vwCl (mdW cI am ((fx4_refused M 1).2)) H := hP
    have hD : va_D A (mdW cI am ((fx4_refused M 1).2)) := hD
    generalize eu2 : fx4_refused M 1 = u2 at hR hF hP hD ⊢
    replace hR := bnd_e hR
    replace hF := bnd_p hF
    refine lv_if_eq (tgt := 35) hx hb dX4_start_30 (by decide) (fun c3 => ?_) (fun c3 => ?_)
    · rw [if_pos c3] at hR hF
      refine lv_aload_n hx hb dX4_start_35 rfl (lv_at hl 0 rfl) ?_
      have hs6 := hF
      refine kcV (ci := 4) (q0 := 0) (As := []) (rest := []) E.1 (cx4_saves E am u2.2 hs6) hX (cwV 0 hts gX4_start_X4_saves rfl rfl rfl hdX4_saves ⟨Nat.le_of_ble_eq_true rfl, Nat.le_of_ble_eq_true rfl⟩) hKs hK hP hD hS hA _ _ (kw_self _) (kw_self _).symm rfl rfl rfl rfl hl.1 (Nat.le_of_ble_eq_true rfl) dX4_start_36 ⟨Nat.zero_le _, Nat.zero_le _⟩ (fun H locs hP hD hS => ?_)
      have hP : va_P D vwCl (mdW cI am (fx4_saves u2.2)) H := hP
      have hD : va_D A (mdW cI am (fx4_saves u2.2)) := hD
      generalize eM4 : fx4_saves u2.2 = M4 at hR hP hD
      replace hR := bnd_e hR
      refine lv_aload_n hx hb dX4_start_39 rfl (lv_at hl 0 rfl) ?_
      refine va_get (D := D) (ci := 4) (v := .ref (am 1)) (C := RX4) (T := TX4) (N := 8) hx hb hts hinX4 hown hK hP 0 rfl rfl 0 (by decide) q1 (fun _ h9 => h9) rfl dX4_start_40 ?_
      refine lv_bipush (v := 15) hx hb dX4_start_43 (by decide) ?_
      refine lv_iconst (v := 1) hx hb dX4_start_45 (by decide) ?_
      refine va_iast hx hb hK hP hD hS 1 0 rfl rfl (kin_lit (j := 15) (n := 1203) (by decide) (by decide)) dX4_start_46 (fun H locs hP hD hS => ?_)
      have hP : va_P D vwCl (mdW cI am (va_up M4.1 0 (upd (M4.1 0) 15 1), M4.2)) H := hP
      have hD : va_D A (mdW cI am (va_up M4.1 0 (upd (M4.1 0) 15 1), M4.2)) := hD
      generalize eg5 : upd (M4.1 0) 15 1 = g5 at hR hP hD
      replace hR := bnd_e hR
      refine lv_aload_n hx hb dX4_start_47 rfl (lv_at hl 0 rfl) ?_
      refine va_get (D := D) (ci := 4) (v := .ref (am 1)) (C := RX4) (T := TX4) (N := 8) hx hb hts hinX4 hown hK hP 0 rfl rfl 0 (by decide) q1 (fun _ h9 => h9) rfl dX4_start_48 ?_
      refine lv_bipush (v := 36) hx hb dX4_start_51 (by decide) ?_
      refine va_iald hx hb hK hP 1 0 rfl rfl (kin_lit (j := 36) (n := 1203) (by decide) (by decide)) dX4_start_53 ?_
      refine kw_top (v := .int (g5 36)) rfl ?_
      subst hR
      exact krI hx hb hr hlk hP hD hS dX4_start_54 rfl rfl
    · rw [if_neg c3] at hR hF
      refine lv_iconst (v := 0) hx hb dX4_start_33 (by decide) ?_
      subst hR
      exact krI hx hb hr hlk hP hD hS dX4_start_34 rfl rfl
  · rw [if_neg c1] at hR hF
    refine lv_aload_n hx hb dX4_start_12 rfl (lv_at hl 0 rfl) ?_
    refine va_get (D := D) (ci := 4) (v := .ref (am 1)) (C := RX4) (T := TX4) (N := 8) hx hb hts hinX4 hown hK hP 0 rfl rfl 0 (by decide) q1 (fun _ h9 => h9) rfl dX4_start_13 ?_
    refine lv_bipush (v := 16) hx hb dX4_start_16 (by decide) ?_
    refine va_iald hx hb hK hP 1 0 rfl rfl (kin_lit (j := 16) (n := 1203) (by decide) (by decide)) dX4_start_18 ?_
    refine kw_top (v := .int ((M.1 0) 16)) rfl ?_
    refine lv_if_eq (tgt := 26) hx hb dX4_start_19 (by decide) (fun c7 => ?_) (fun c7 => ?_)
    · rw [if_pos c7] at hR hF
      refine lv_iconst (v := 0) hx hb dX4_start_26 (by decide) ?_
      refine kcI (ci := 4) (q0 := 0) (As := [.int 0]) (rest := []) E.1 (cx4_refused E am M 0) hX (cwV 1 hts gX4_start_X4_refused rfl rfl rfl hdX4_refused ⟨Nat.le_of_ble_eq_true rfl, Nat.le_of_ble_eq_true rfl⟩) hKs hK hP hD hS hA _ _ (kw_self _) (kw_self _).symm rfl rfl rfl rfl hl.1 (Nat.le_of_ble_eq_true rfl) dX4_start_27 ⟨Nat.zero_le _, Nat.zero_le _⟩ (fun H locs hP hD hS => ?_)
      have hP : va_P D vwCl (mdW cI am ((fx4_refused M 0).2)) H := hP
      have hD : va_D A (mdW cI am ((fx4_refused M 0).2)) := hD
      generalize eu8 : fx4_refused M 0 = u8 at hR hF hP hD ⊢
      replace hR := bnd_e hR
      replace hF := bnd_p hF
      refine lv_if_eq (tgt := 35) hx hb dX4_start_30 (by decide) (fun c9 => ?_) (fun c9 => ?_)
      · rw [if_pos c9] at hR hF
        refine lv_aload_n hx hb dX4_start_35 rfl (lv_at hl 0 rfl) ?_
        have hs12 := hF
        refine kcV (ci := 4) (q0 := 0) (As := []) (rest := []) E.1 (cx4_saves E am u8.2 hs12) hX (cwV 0 hts gX4_start_X4_saves rfl rfl rfl hdX4_saves ⟨Nat.le_of_ble_eq_true rfl, Nat.le_of_ble_eq_true rfl⟩) hKs hK hP hD hS hA _ _ (kw_self _) (kw_self _).symm rfl rfl rfl rfl hl.1 (Nat.le_of_ble_eq_true rfl) dX4_start_36 ⟨Nat.zero_le _, Nat.zero_le _⟩ (fun H locs hP hD hS => ?_)
        have hP : va_P D vwCl (mdW cI am (fx4_saves u8.2)) H := hP
        have hD : va_D A (mdW cI am (fx4_saves u8.2)) := hD
        generalize eM10 : fx4_saves u8.2 = M10 at hR hP hD
        replace hR := bnd_e hR
        refine lv_aload_n hx hb dX4_start_39 rfl (lv_at hl 0 rfl) ?_
        refine va_get (D := D) (ci := 4) (v := .ref (am 1)) (C := RX4) (T := TX4) (N := 8) hx hb hts hinX4 hown hK hP 0 rfl rfl 0 (by decide) q1 (fun _ h9 => h9) rfl dX4_start_40 ?_
        refine lv_bipush (v := 15) hx hb dX4_start_43 (by decide) ?_
        refine lv_iconst (v := 1) hx hb dX4_start_45 (by decide) ?_
        refine va_iast hx hb hK hP hD hS 1 0 rfl rfl (kin_lit (j := 15) (n := 1203) (by decide) (by decide)) dX4_start_46 (fun H locs hP hD hS => ?_)
        have hP : va_P D vwCl (mdW cI am (va_up M10.1 0 (upd (M10.1 0) 15 1), M10.2)) H := hP
        have hD : va_D A (mdW cI am (va_up M10.1 0 (upd (M10.1 0) 15 1), M10.2)) := hD
        generalize eg11 : upd (M10.1 0) 15 1 = g11 at hR hP hD
        replace hR := bnd_e hR
        refine lv_aload_n hx hb dX4_start_47 rfl (lv_at hl 0 rfl) ?_
        refine va_get (D := D) (ci := 4) (v := .ref (am 1)) (C := RX4) (T := TX4) (N := 8) hx hb hts hinX4 hown hK hP 0 rfl rfl 0 (by decide) q1 (fun _ h9 => h9) rfl dX4_start_48 ?_
        refine lv_bipush (v := 36) hx hb dX4_start_51 (by decide) ?_
        refine va_iald hx hb hK hP 1 0 rfl rfl (kin_lit (j := 36) (n := 1203) (by decide) (by decide)) dX4_start_53 ?_
        refine kw_top (v := .int (g11 36)) rfl ?_
        subst hR
        exact krI hx hb hr hlk hP hD hS dX4_start_54 rfl rfl
      · rw [if_neg c9] at hR hF
        refine lv_iconst (v := 0) hx hb dX4_start_33 (by decide) ?_
        subst hR
        exact krI hx hb hr hlk hP hD hS dX4_start_34 rfl rfl
    · rw [if_neg c7] at hR hF
      refine lv_iconst (v := 1) hx hb dX4_start_22 (by decide) ?_
      refine lv_goto (tgt := 27) hx hb dX4_start_23 (by decide) ?_
      refine kcI (ci := 4) (q0 := 0) (As := [.int 1]) (rest := []) E.1 (cx4_refused E am M 1) hX (cwV 1 hts gX4_start_X4_refused rfl rfl rfl hdX4_refused ⟨Nat.le_of_ble_eq_true rfl, Nat.le_of_ble_eq_true rfl⟩) hKs hK hP hD hS hA _ _ (kw_self _) (kw_self _).symm rfl rfl rfl rfl hl.1 (Nat.le_of_ble_eq_true rfl) dX4_start_27 ⟨Nat.zero_le _, Nat.zero_le _⟩ (fun H locs hP hD hS => ?_)
      have hP : va_P D vwCl (mdW cI am ((fx4_refused M 1).2)) H := hP
      have hD : va_D A (mdW cI am ((fx4_refused M 1).2)) := hD
      generalize eu13 : fx4_refused M 1 = u13 at hR hF hP hD ⊢
      replace hR := bnd_e hR
      replace hF := bnd_p hF
      refine lv_if_eq (tgt := 35) hx hb dX4_start_30 (by decide) (fun c14 => ?_) (fun c14 => ?_)
      · rw [if_pos c14] at hR hF
        refine lv_aload_n hx hb dX4_start_35 rfl (lv_at hl 0 rfl) ?_
        have hs17 := hF
        refine kcV (ci := 4) (q0 := 0) (As := []) (rest := []) E.1 (cx4_saves E am u13.2 hs17) hX (cwV 0 hts gX4_start_X4_saves rfl rfl rfl hdX4_saves ⟨Nat.le_of_ble_eq_true rfl, Nat.le_of_ble_eq_true rfl⟩) hKs hK hP hD hS hA _ _ (kw_self _) (kw_self _).symm rfl rfl rfl rfl hl.1 (Nat.le_of_ble_eq_true rfl) dX4_start_36 ⟨Nat.zero_le _, Nat.zero_le _⟩ (fun H locs hP hD hS => ?_)
        have hP : va_P D vwCl (mdW cI am (fx4_saves u13.2)) H := hP
        have hD : va_D A (mdW cI am (fx4_saves u13.2)) := hD
        generalize eM15 : fx4_saves u13.2 = M15 at hR hP hD
        replace hR := bnd_e hR
        refine lv_aload_n hx hb dX4_start_39 rfl (lv_at hl 0 rfl) ?_
        refine va_get (D := D) (ci := 4) (v := .ref (am 1)) (C := RX4) (T := TX4) (N := 8) hx hb hts hinX4 hown hK hP 0 rfl rfl 0 (by decide) q1 (fun _ h9 => h9) rfl dX4_start_40 ?_
        refine lv_bipush (v := 15) hx hb dX4_start_43 (by decide) ?_
        refine lv_iconst (v := 1) hx hb dX4_start_45 (by decide) ?_
        refine va_iast hx hb hK hP hD hS 1 0 rfl rfl (kin_lit (j := 15) (n := 1203) (by decide) (by decide)) dX4_start_46 (fun H locs hP hD hS => ?_)
        have hP : va_P D vwCl (mdW cI am (va_up M15.1 0 (upd (M15.1 0) 15 1), M15.2)) H := hP
        have hD : va_D A (mdW cI am (va_up M15.1 0 (upd (M15.1 0) 15 1), M15.2)) := hD
        generalize eg16 : upd (M15.1 0) 15 1 = g16 at hR hP hD
        replace hR := bnd_e hR
        refine lv_aload_n hx hb dX4_start_47 rfl (lv_at hl 0 rfl) ?_
        refine va_get (D := D) (ci := 4) (v := .ref (am 1)) (C := RX4) (T := TX4) (N := 8) hx hb hts hinX4 hown hK hP 0 rfl rfl 0 (by decide) q1 (fun _ h9 => h9) rfl dX4_start_48 ?_
        refine lv_bipush (v := 36) hx hb dX4_start_51 (by decide) ?_
        refine va_iald hx hb hK hP 1 0 rfl rfl (kin_lit (j := 36) (n := 1203) (by decide) (by decide)) dX4_start_53 ?_
        refine kw_top (v := .int (g16 36)) rfl ?_
        subst hR
        exact krI hx hb hr hlk hP hD hS dX4_start_54 rfl rfl
      · rw [if_neg c14] at hR hF
        refine lv_iconst (v := 0) hx hb dX4_start_33 (by decide) ?_
        subst hR
        exact krI hx hb hr hlk hP hD hS dX4_start_34 rfl rfl

theorem hdX4_stop : yX4_stop.cls = RX4 ∧ yX4_stop.cls ≠ "java/lang/invoke/MethodHandle" ∧ yX4_stop.cls ≠ "java/lang/invoke/VarHandle" ∧ (parseMethodDescriptor yX4_stop.desc).map (fun d => d.parameters.length) = some 0 := by decide +kernel
def fx4_stop (M : Md) : Int32 × (Md) := (if ((M.1 0) 15) = 0 then (bnd (fx4_refused M 1) (fun u2 => (if u2.1 = 0 then (bnd (fx4_saves u2.2) (fun M4 => (bnd (upd (M4.1 0) 15 0) (fun g5 => (g5 36, (va_up M4.1 0 g5, M4.2)))))) else (0, u2.2)))) else (bnd (fx4_refused M 0) (fun u7 => (if u7.1 = 0 then (bnd (fx4_saves u7.2) (fun M9 => (bnd (upd (M9.1 0) 15 0) (fun g10 => (g10 36, (va_up M9.1 0 g10, M9.2)))))) else (0, u7.2)))))
def sx4_stop (M : Md) : Prop := (if ((M.1 0) 15) = 0 then (bnd (fx4_refused M 1) (fun u2 => (if u2.1 = 0 then sx4_saves u2.2 else True))) else (bnd (fx4_refused M 0) (fun u7 => (if u7.1 = 0 then sx4_saves u7.2 else True))))
set_option maxHeartbeats 4000000 in
set_option maxRecDepth 100000 in
theorem cx4_stop {l : Launch} {D : va_G} {cI cB cS cJ : ClassId} {K : State → Prop} (E : kE D cI cB cS cJ K) (am : Nat → Nat) (M : Md) (hF : sx4_stop M) : kI l D K yX4_stop wsX4_stop 1 21 [.ref (am 0)] (mdW cI am M) (fx4_stop M).1 (mdW cI am ((fx4_stop M).2)) := by
  refine kI_of (own := RX4) (cc := cX4_stop) (maxL := 1) (tys := kty cI cB cS cJ) (fun U h => (E.2 U h).1) (by decide) rfl rfl (Nat.le_of_ble_eq_true rfl) ?_
  intro p e s m below meth c A ls hx hb hr hml hts hown hlk hKs hK hP hD hA hS hl
  have hl : lv_has ls 1 [(0, .ref (am 0))] := hl
  have hX : CallFix p m c cX4_stop 1 s _ wsX4_stop RX4 := ⟨hx, hb, hml, hown, hts⟩
  have hinX4 : ∀ w ∈ wsX40, w ∈ wsX4_stop := fun w h => List.mem_cons_of_mem _ (List.mem_append_right _ h)
  have q1 := hts (.fieldLink RX4 7 "LabelStationModel" "now" "[I") (List.mem_of_getElem? (i := 1) rfl)
  generalize hR : fx4_stop M = R
  rw [fx4_stop] at hR
  rw [sx4_stop] at hF
  refine lv_aload_n hx hb dX4_stop_0 rfl (lv_at hl 0 rfl) ?_
  refine lv_aload_n hx hb dX4_stop_1 rfl (lv_at hl 0 rfl) ?_
  refine va_get (D := D) (ci := 4) (v := .ref (am 1)) (C := RX4) (T := TX4) (N := 8) hx hb hts hinX4 hown hK hP 0 rfl rfl 0 (by decide) q1 (fun _ h9 => h9) rfl dX4_stop_2 ?_
  refine lv_bipush (v := 15) hx hb dX4_stop_5 (by decide) ?_
  refine va_iald hx hb hK hP 1 0 rfl rfl (kin_lit (j := 15) (n := 1203) (by decide) (by decide)) dX4_stop_7 ?_
  refine kw_top (v := .int ((M.1 0) 15)) rfl ?_
  refine lv_if_ne (tgt := 15) hx hb dX4_stop_8 (by decide) (fun c1 => ?_) (fun c1 => ?_)
  · rw [if_neg c1] at hR hF
    refine lv_iconst (v := 0) hx hb dX4_stop_15 (by decide) ?_
    refine kcI (ci := 4) (q0 := 0) (As := [.int 0]) (rest := []) E.1 (cx4_refused E am M 0) hX (cwV 1 hts gX4_stop_X4_refused rfl rfl rfl hdX4_refused ⟨Nat.le_of_ble_eq_true rfl, Nat.le_of_ble_eq_true rfl⟩) hKs hK hP hD hS hA _ _ (kw_self _) (kw_self _).symm rfl rfl rfl rfl hl.1 (Nat.le_of_ble_eq_true rfl) dX4_stop_16 ⟨Nat.zero_le _, Nat.zero_le _⟩ (fun H locs hP hD hS => ?_)
    have hP : va_P D vwCl (mdW cI am ((fx4_refused M 0).2)) H := hP
    have hD : va_D A (mdW cI am ((fx4_refused M 0).2)) := hD
    generalize eu7 : fx4_refused M 0 = u7 at hR hF hP hD ⊢
    replace hR := bnd_e hR
    replace hF := bnd_p hF
    refine lv_if_eq (tgt := 24) hx hb dX4_stop_19 (by decide) (fun c8 => ?_) (fun c8 => ?_)
    · rw [if_pos c8] at hR hF
      refine lv_aload_n hx hb dX4_stop_24 rfl (lv_at hl 0 rfl) ?_
      have hs11 := hF
      refine kcV (ci := 4) (q0 := 0) (As := []) (rest := []) E.1 (cx4_saves E am u7.2 hs11) hX (cwV 0 hts gX4_stop_X4_saves rfl rfl rfl hdX4_saves ⟨Nat.le_of_ble_eq_true rfl, Nat.le_of_ble_eq_true rfl⟩) hKs hK hP hD hS hA _ _ (kw_self _) (kw_self _).symm rfl rfl rfl rfl hl.1 (Nat.le_of_ble_eq_true rfl) dX4_stop_25 ⟨Nat.zero_le _, Nat.zero_le _⟩ (fun H locs hP hD hS => ?_)
      have hP : va_P D vwCl (mdW cI am (fx4_saves u7.2)) H := hP
      have hD : va_D A (mdW cI am (fx4_saves u7.2)) := hD
      generalize eM9 : fx4_saves u7.2 = M9 at hR hP hD
      replace hR := bnd_e hR
      refine lv_aload_n hx hb dX4_stop_28 rfl (lv_at hl 0 rfl) ?_
      refine va_get (D := D) (ci := 4) (v := .ref (am 1)) (C := RX4) (T := TX4) (N := 8) hx hb hts hinX4 hown hK hP 0 rfl rfl 0 (by decide) q1 (fun _ h9 => h9) rfl dX4_stop_29 ?_
      refine lv_bipush (v := 15) hx hb dX4_stop_32 (by decide) ?_
      refine lv_iconst (v := 0) hx hb dX4_stop_34 (by decide) ?_
      refine va_iast hx hb hK hP hD hS 1 0 rfl rfl (kin_lit (j := 15) (n := 1203) (by decide) (by decide)) dX4_stop_35 (fun H locs hP hD hS => ?_)
      have hP : va_P D vwCl (mdW cI am (va_up M9.1 0 (upd (M9.1 0) 15 0), M9.2)) H := hP
      have hD : va_D A (mdW cI am (va_up M9.1 0 (upd (M9.1 0) 15 0), M9.2)) := hD
      generalize eg10 : upd (M9.1 0) 15 0 = g10 at hR hP hD
      replace hR := bnd_e hR
      refine lv_aload_n hx hb dX4_stop_36 rfl (lv_at hl 0 rfl) ?_
      refine va_get (D := D) (ci := 4) (v := .ref (am 1)) (C := RX4) (T := TX4) (N := 8) hx hb hts hinX4 hown hK hP 0 rfl rfl 0 (by decide) q1 (fun _ h9 => h9) rfl dX4_stop_37 ?_
      refine lv_bipush (v := 36) hx hb dX4_stop_40 (by decide) ?_
      refine va_iald hx hb hK hP 1 0 rfl rfl (kin_lit (j := 36) (n := 1203) (by decide) (by decide)) dX4_stop_42 ?_
      refine kw_top (v := .int (g10 36)) rfl ?_
      subst hR
      exact krI hx hb hr hlk hP hD hS dX4_stop_43 rfl rfl
    · rw [if_neg c8] at hR hF
      refine lv_iconst (v := 0) hx hb dX4_stop_22 (by decide) ?_
      subst hR
      exact krI hx hb hr hlk hP hD hS dX4_stop_23 rfl rfl
  · rw [if_pos c1] at hR hF
    refine lv_iconst (v := 1) hx hb dX4_stop_11 (by decide) ?_
    refine lv_goto (tgt := 16) hx hb dX4_stop_12 (by decide) ?_
    refine kcI (ci := 4) (q0 := 0) (As := [.int 1]) (rest := []) E.1 (cx4_refused E am M 1) hX (cwV 1 hts gX4_stop_X4_refused rfl rfl rfl hdX4_refused ⟨Nat.le_of_ble_eq_true rfl, Nat.le_of_ble_eq_true rfl⟩) hKs hK hP hD hS hA _ _ (kw_self _) (kw_self _).symm rfl rfl rfl rfl hl.1 (Nat.le_of_ble_eq_true rfl) dX4_stop_16 ⟨Nat.zero_le _, Nat.zero_le _⟩ (fun H locs hP hD hS => ?_)
    have hP : va_P D vwCl (mdW cI am ((fx4_refused M 1).2)) H := hP
    have hD : va_D A (mdW cI am ((fx4_refused M 1).2)) := hD
    generalize eu2 : fx4_refused M 1 = u2 at hR hF hP hD ⊢
    replace hR := bnd_e hR
    replace hF := bnd_p hF
    refine lv_if_eq (tgt := 24) hx hb dX4_stop_19 (by decide) (fun c3 => ?_) (fun c3 => ?_)
    · rw [if_pos c3] at hR hF
      refine lv_aload_n hx hb dX4_stop_24 rfl (lv_at hl 0 rfl) ?_
      have hs6 := hF
      refine kcV (ci := 4) (q0 := 0) (As := []) (rest := []) E.1 (cx4_saves E am u2.2 hs6) hX (cwV 0 hts gX4_stop_X4_saves rfl rfl rfl hdX4_saves ⟨Nat.le_of_ble_eq_true rfl, Nat.le_of_ble_eq_true rfl⟩) hKs hK hP hD hS hA _ _ (kw_self _) (kw_self _).symm rfl rfl rfl rfl hl.1 (Nat.le_of_ble_eq_true rfl) dX4_stop_25 ⟨Nat.zero_le _, Nat.zero_le _⟩ (fun H locs hP hD hS => ?_)
      have hP : va_P D vwCl (mdW cI am (fx4_saves u2.2)) H := hP
      have hD : va_D A (mdW cI am (fx4_saves u2.2)) := hD
      generalize eM4 : fx4_saves u2.2 = M4 at hR hP hD
      replace hR := bnd_e hR
      refine lv_aload_n hx hb dX4_stop_28 rfl (lv_at hl 0 rfl) ?_
      refine va_get (D := D) (ci := 4) (v := .ref (am 1)) (C := RX4) (T := TX4) (N := 8) hx hb hts hinX4 hown hK hP 0 rfl rfl 0 (by decide) q1 (fun _ h9 => h9) rfl dX4_stop_29 ?_
      refine lv_bipush (v := 15) hx hb dX4_stop_32 (by decide) ?_
      refine lv_iconst (v := 0) hx hb dX4_stop_34 (by decide) ?_
      refine va_iast hx hb hK hP hD hS 1 0 rfl rfl (kin_lit (j := 15) (n := 1203) (by decide) (by decide)) dX4_stop_35 (fun H locs hP hD hS => ?_)
      have hP : va_P D vwCl (mdW cI am (va_up M4.1 0 (upd (M4.1 0) 15 0), M4.2)) H := hP
      have hD : va_D A (mdW cI am (va_up M4.1 0 (upd (M4.1 0) 15 0), M4.2)) := hD
      generalize eg5 : upd (M4.1 0) 15 0 = g5 at hR hP hD
      replace hR := bnd_e hR
      refine lv_aload_n hx hb dX4_stop_36 rfl (lv_at hl 0 rfl) ?_
      refine va_get (D := D) (ci := 4) (v := .ref (am 1)) (C := RX4) (T := TX4) (N := 8) hx hb hts hinX4 hown hK hP 0 rfl rfl 0 (by decide) q1 (fun _ h9 => h9) rfl dX4_stop_37 ?_
      refine lv_bipush (v := 36) hx hb dX4_stop_40 (by decide) ?_
      refine va_iald hx hb hK hP 1 0 rfl rfl (kin_lit (j := 36) (n := 1203) (by decide) (by decide)) dX4_stop_42 ?_
      refine kw_top (v := .int (g5 36)) rfl ?_
      subst hR
      exact krI hx hb hr hlk hP hD hS dX4_stop_43 rfl rfl
    · rw [if_neg c3] at hR hF
      refine lv_iconst (v := 0) hx hb dX4_stop_22 (by decide) ?_
      subst hR
      exact krI hx hb hr hlk hP hD hS dX4_stop_23 rfl rfl

theorem hdX4_reset : yX4_reset.cls = RX4 ∧ yX4_reset.cls ≠ "java/lang/invoke/MethodHandle" ∧ yX4_reset.cls ≠ "java/lang/invoke/VarHandle" ∧ (parseMethodDescriptor yX4_reset.desc).map (fun d => d.parameters.length) = some 0 := by decide +kernel
def fx4_reset (M : Md) : Int32 × (Md) := (if ((M.1 0) 16) = 0 then (bnd (fx4_refused M 1) (fun u2 => (if u2.1 = 0 then (bnd (fx4_saves u2.2) (fun M4 => (bnd (upd (M4.1 0) 16 0) (fun g5 => ((M4.1 0) 16, (va_up M4.1 0 g5, M4.2)))))) else (0, u2.2)))) else (bnd (fx4_refused M 0) (fun u7 => (if u7.1 = 0 then (bnd (fx4_saves u7.2) (fun M9 => (bnd (upd (M9.1 0) 16 0) (fun g10 => ((M9.1 0) 16, (va_up M9.1 0 g10, M9.2)))))) else (0, u7.2)))))
def sx4_reset (M : Md) : Prop := (if ((M.1 0) 16) = 0 then (bnd (fx4_refused M 1) (fun u2 => (if u2.1 = 0 then sx4_saves u2.2 else True))) else (bnd (fx4_refused M 0) (fun u7 => (if u7.1 = 0 then sx4_saves u7.2 else True))))
set_option maxHeartbeats 4000000 in
set_option maxRecDepth 100000 in
theorem cx4_reset {l : Launch} {D : va_G} {cI cB cS cJ : ClassId} {K : State → Prop} (E : kE D cI cB cS cJ K) (am : Nat → Nat) (M : Md) (hF : sx4_reset M) : kI l D K yX4_reset wsX4_reset 1 21 [.ref (am 0)] (mdW cI am M) (fx4_reset M).1 (mdW cI am ((fx4_reset M).2)) := by
  refine kI_of (own := RX4) (cc := cX4_reset) (maxL := 2) (tys := kty cI cB cS cJ) (fun U h => (E.2 U h).1) (by decide) rfl rfl (Nat.le_of_ble_eq_true rfl) ?_
  intro p e s m below meth c A ls hx hb hr hml hts hown hlk hKs hK hP hD hA hS hl
  have hl : lv_has ls 2 [(0, .ref (am 0))] := hl
  have hX : CallFix p m c cX4_reset 2 s _ wsX4_reset RX4 := ⟨hx, hb, hml, hown, hts⟩
  have hinX4 : ∀ w ∈ wsX40, w ∈ wsX4_reset := fun w h => List.mem_cons_of_mem _ (List.mem_append_right _ h)
  have q1 := hts (.fieldLink RX4 7 "LabelStationModel" "now" "[I") (List.mem_of_getElem? (i := 1) rfl)
  generalize hR : fx4_reset M = R
  rw [fx4_reset] at hR
  rw [sx4_reset] at hF
  refine lv_aload_n hx hb dX4_reset_0 rfl (lv_at hl 0 rfl) ?_
  refine lv_aload_n hx hb dX4_reset_1 rfl (lv_at hl 0 rfl) ?_
  refine va_get (D := D) (ci := 4) (v := .ref (am 1)) (C := RX4) (T := TX4) (N := 8) hx hb hts hinX4 hown hK hP 0 rfl rfl 0 (by decide) q1 (fun _ h9 => h9) rfl dX4_reset_2 ?_
  refine lv_bipush (v := 16) hx hb dX4_reset_5 (by decide) ?_
  refine va_iald hx hb hK hP 1 0 rfl rfl (kin_lit (j := 16) (n := 1203) (by decide) (by decide)) dX4_reset_7 ?_
  refine kw_top (v := .int ((M.1 0) 16)) rfl ?_
  refine lv_if_ne (tgt := 15) hx hb dX4_reset_8 (by decide) (fun c1 => ?_) (fun c1 => ?_)
  · rw [if_neg c1] at hR hF
    refine lv_iconst (v := 0) hx hb dX4_reset_15 (by decide) ?_
    refine kcI (ci := 4) (q0 := 0) (As := [.int 0]) (rest := []) E.1 (cx4_refused E am M 0) hX (cwV 1 hts gX4_reset_X4_refused rfl rfl rfl hdX4_refused ⟨Nat.le_of_ble_eq_true rfl, Nat.le_of_ble_eq_true rfl⟩) hKs hK hP hD hS hA _ _ (kw_self _) (kw_self _).symm rfl rfl rfl rfl hl.1 (Nat.le_of_ble_eq_true rfl) dX4_reset_16 ⟨Nat.zero_le _, Nat.zero_le _⟩ (fun H locs hP hD hS => ?_)
    have hP : va_P D vwCl (mdW cI am ((fx4_refused M 0).2)) H := hP
    have hD : va_D A (mdW cI am ((fx4_refused M 0).2)) := hD
    generalize eu7 : fx4_refused M 0 = u7 at hR hF hP hD ⊢
    replace hR := bnd_e hR
    replace hF := bnd_p hF
    refine lv_if_eq (tgt := 24) hx hb dX4_reset_19 (by decide) (fun c8 => ?_) (fun c8 => ?_)
    · rw [if_pos c8] at hR hF
      refine lv_aload_n hx hb dX4_reset_24 rfl (lv_at hl 0 rfl) ?_
      have hs11 := hF
      refine kcV (ci := 4) (q0 := 0) (As := []) (rest := []) E.1 (cx4_saves E am u7.2 hs11) hX (cwV 0 hts gX4_reset_X4_saves rfl rfl rfl hdX4_saves ⟨Nat.le_of_ble_eq_true rfl, Nat.le_of_ble_eq_true rfl⟩) hKs hK hP hD hS hA _ _ (kw_self _) (kw_self _).symm rfl rfl rfl rfl hl.1 (Nat.le_of_ble_eq_true rfl) dX4_reset_25 ⟨Nat.zero_le _, Nat.zero_le _⟩ (fun H locs hP hD hS => ?_)
      have hP : va_P D vwCl (mdW cI am (fx4_saves u7.2)) H := hP
      have hD : va_D A (mdW cI am (fx4_saves u7.2)) := hD
      generalize eM9 : fx4_saves u7.2 = M9 at hR hP hD
      replace hR := bnd_e hR
      refine lv_aload_n hx hb dX4_reset_28 rfl (lv_at hl 0 rfl) ?_
      refine va_get (D := D) (ci := 4) (v := .ref (am 1)) (C := RX4) (T := TX4) (N := 8) hx hb hts hinX4 hown hK hP 0 rfl rfl 0 (by decide) q1 (fun _ h9 => h9) rfl dX4_reset_29 ?_
      refine lv_bipush (v := 16) hx hb dX4_reset_32 (by decide) ?_
      refine va_iald hx hb hK hP 1 0 rfl rfl (kin_lit (j := 16) (n := 1203) (by decide) (by decide)) dX4_reset_34 ?_
      refine kw_top (v := .int ((M9.1 0) 16)) rfl ?_
      refine lv_istore_n (lv' := [(1, .int ((M9.1 0) 16)), (0, .ref (am 0))]) hx hb dX4_reset_35 rfl hl (by decide) rfl (fun ls hl => ?_)
      refine lv_aload_n hx hb dX4_reset_36 rfl (lv_at hl 1 rfl) ?_
      refine va_get (D := D) (ci := 4) (v := .ref (am 1)) (C := RX4) (T := TX4) (N := 8) hx hb hts hinX4 hown hK hP 0 rfl rfl 0 (by decide) q1 (fun _ h9 => h9) rfl dX4_reset_37 ?_
      refine lv_bipush (v := 16) hx hb dX4_reset_40 (by decide) ?_
      refine lv_iconst (v := 0) hx hb dX4_reset_42 (by decide) ?_
      refine va_iast hx hb hK hP hD hS 1 0 rfl rfl (kin_lit (j := 16) (n := 1203) (by decide) (by decide)) dX4_reset_43 (fun H locs hP hD hS => ?_)
      have hP : va_P D vwCl (mdW cI am (va_up M9.1 0 (upd (M9.1 0) 16 0), M9.2)) H := hP
      have hD : va_D A (mdW cI am (va_up M9.1 0 (upd (M9.1 0) 16 0), M9.2)) := hD
      generalize eg10 : upd (M9.1 0) 16 0 = g10 at hR hP hD
      replace hR := bnd_e hR
      refine lv_iload_n hx hb dX4_reset_44 rfl (lv_at hl 0 rfl) ?_
      subst hR
      exact krI hx hb hr hlk hP hD hS dX4_reset_45 rfl rfl
    · rw [if_neg c8] at hR hF
      refine lv_iconst (v := 0) hx hb dX4_reset_22 (by decide) ?_
      subst hR
      exact krI hx hb hr hlk hP hD hS dX4_reset_23 rfl rfl
  · rw [if_pos c1] at hR hF
    refine lv_iconst (v := 1) hx hb dX4_reset_11 (by decide) ?_
    refine lv_goto (tgt := 16) hx hb dX4_reset_12 (by decide) ?_
    refine kcI (ci := 4) (q0 := 0) (As := [.int 1]) (rest := []) E.1 (cx4_refused E am M 1) hX (cwV 1 hts gX4_reset_X4_refused rfl rfl rfl hdX4_refused ⟨Nat.le_of_ble_eq_true rfl, Nat.le_of_ble_eq_true rfl⟩) hKs hK hP hD hS hA _ _ (kw_self _) (kw_self _).symm rfl rfl rfl rfl hl.1 (Nat.le_of_ble_eq_true rfl) dX4_reset_16 ⟨Nat.zero_le _, Nat.zero_le _⟩ (fun H locs hP hD hS => ?_)
    have hP : va_P D vwCl (mdW cI am ((fx4_refused M 1).2)) H := hP
    have hD : va_D A (mdW cI am ((fx4_refused M 1).2)) := hD
    generalize eu2 : fx4_refused M 1 = u2 at hR hF hP hD ⊢
    replace hR := bnd_e hR
    replace hF := bnd_p hF
    refine lv_if_eq (tgt := 24) hx hb dX4_reset_19 (by decide) (fun c3 => ?_) (fun c3 => ?_)
    · rw [if_pos c3] at hR hF
      refine lv_aload_n hx hb dX4_reset_24 rfl (lv_at hl 0 rfl) ?_
      have hs6 := hF
      refine kcV (ci := 4) (q0 := 0) (As := []) (rest := []) E.1 (cx4_saves E am u2.2 hs6) hX (cwV 0 hts gX4_reset_X4_saves rfl rfl rfl hdX4_saves ⟨Nat.le_of_ble_eq_true rfl, Nat.le_of_ble_eq_true rfl⟩) hKs hK hP hD hS hA _ _ (kw_self _) (kw_self _).symm rfl rfl rfl rfl hl.1 (Nat.le_of_ble_eq_true rfl) dX4_reset_25 ⟨Nat.zero_le _, Nat.zero_le _⟩ (fun H locs hP hD hS => ?_)
      have hP : va_P D vwCl (mdW cI am (fx4_saves u2.2)) H := hP
      have hD : va_D A (mdW cI am (fx4_saves u2.2)) := hD
      generalize eM4 : fx4_saves u2.2 = M4 at hR hP hD
      replace hR := bnd_e hR
      refine lv_aload_n hx hb dX4_reset_28 rfl (lv_at hl 0 rfl) ?_
      refine va_get (D := D) (ci := 4) (v := .ref (am 1)) (C := RX4) (T := TX4) (N := 8) hx hb hts hinX4 hown hK hP 0 rfl rfl 0 (by decide) q1 (fun _ h9 => h9) rfl dX4_reset_29 ?_
      refine lv_bipush (v := 16) hx hb dX4_reset_32 (by decide) ?_
      refine va_iald hx hb hK hP 1 0 rfl rfl (kin_lit (j := 16) (n := 1203) (by decide) (by decide)) dX4_reset_34 ?_
      refine kw_top (v := .int ((M4.1 0) 16)) rfl ?_
      refine lv_istore_n (lv' := [(1, .int ((M4.1 0) 16)), (0, .ref (am 0))]) hx hb dX4_reset_35 rfl hl (by decide) rfl (fun ls hl => ?_)
      refine lv_aload_n hx hb dX4_reset_36 rfl (lv_at hl 1 rfl) ?_
      refine va_get (D := D) (ci := 4) (v := .ref (am 1)) (C := RX4) (T := TX4) (N := 8) hx hb hts hinX4 hown hK hP 0 rfl rfl 0 (by decide) q1 (fun _ h9 => h9) rfl dX4_reset_37 ?_
      refine lv_bipush (v := 16) hx hb dX4_reset_40 (by decide) ?_
      refine lv_iconst (v := 0) hx hb dX4_reset_42 (by decide) ?_
      refine va_iast hx hb hK hP hD hS 1 0 rfl rfl (kin_lit (j := 16) (n := 1203) (by decide) (by decide)) dX4_reset_43 (fun H locs hP hD hS => ?_)
      have hP : va_P D vwCl (mdW cI am (va_up M4.1 0 (upd (M4.1 0) 16 0), M4.2)) H := hP
      have hD : va_D A (mdW cI am (va_up M4.1 0 (upd (M4.1 0) 16 0), M4.2)) := hD
      generalize eg5 : upd (M4.1 0) 16 0 = g5 at hR hP hD
      replace hR := bnd_e hR
      refine lv_iload_n hx hb dX4_reset_44 rfl (lv_at hl 0 rfl) ?_
      subst hR
      exact krI hx hb hr hlk hP hD hS dX4_reset_45 rfl rfl
    · rw [if_neg c3] at hR hF
      refine lv_iconst (v := 0) hx hb dX4_reset_22 (by decide) ?_
      subst hR
      exact krI hx hb hr hlk hP hD hS dX4_reset_23 rfl rfl

theorem hdX4_feed : yX4_feed.cls = RX4 ∧ yX4_feed.cls ≠ "java/lang/invoke/MethodHandle" ∧ yX4_feed.cls ≠ "java/lang/invoke/VarHandle" ∧ (parseMethodDescriptor yX4_feed.desc).map (fun d => d.parameters.length) = some 1 := by decide +kernel
def fx4_feed (M : Md) (x1 : Int32) : Int32 × (Md) := (bnd (fx4_barFeed (M.1 0) x1) (fun v1 => (bnd (fx4_refused M v1) (fun u2 => (if u2.1 = 0 then (bnd (fx4_saves u2.2) (fun M4 => (bnd (fx4_feeds (M4.1 0) x1) (fun u5 => (u5.1, (va_up M4.1 0 u5.2, M4.2)))))) else (0, u2.2))))))
def sx4_feed (M : Md) (x1 : Int32) : Prop := (sx4_barFeed (M.1 0) x1 ∧ (bnd (fx4_barFeed (M.1 0) x1) (fun v1 => (bnd (fx4_refused M v1) (fun u2 => (if u2.1 = 0 then (sx4_saves u2.2 ∧ (bnd (fx4_saves u2.2) (fun M4 => sx4_feeds (M4.1 0) x1))) else True))))))
set_option maxHeartbeats 4000000 in
set_option maxRecDepth 100000 in
theorem cx4_feed {l : Launch} {D : va_G} {cI cB cS cJ : ClassId} {K : State → Prop} (E : kE D cI cB cS cJ K) (am : Nat → Nat) (M : Md) (x1 : Int32) (hF : sx4_feed M x1) : kI l D K yX4_feed wsX4_feed 2 46 [.ref (am 0), .int x1] (mdW cI am M) (fx4_feed M x1).1 (mdW cI am ((fx4_feed M x1).2)) := by
  refine kI_of (own := RX4) (cc := cX4_feed) (maxL := 2) (tys := kty cI cB cS cJ) (fun U h => (E.2 U h).1) (by decide) rfl rfl (Nat.le_of_ble_eq_true rfl) ?_
  intro p e s m below meth c A ls hx hb hr hml hts hown hlk hKs hK hP hD hA hS hl
  have hl : lv_has ls 2 [(0, .ref (am 0)), (1, .int x1)] := hl
  have hX : CallFix p m c cX4_feed 2 s _ wsX4_feed RX4 := ⟨hx, hb, hml, hown, hts⟩
  generalize hR : fx4_feed M x1 = R
  rw [fx4_feed] at hR
  rw [sx4_feed] at hF
  refine lv_aload_n hx hb dX4_feed_0 rfl (lv_at hl 0 rfl) ?_
  refine lv_aload_n hx hb dX4_feed_1 rfl (lv_at hl 0 rfl) ?_
  refine lv_iload_n hx hb dX4_feed_2 rfl (lv_at hl 1 rfl) ?_
  obtain ⟨hs8, hF⟩ := hF
  refine kcI (ci := 4) (q0 := 0) (As := [.int x1]) (rest := [.ref (am 0)]) E.1 (cx4_barFeed E am (M.1 4 0) (M.1 4 1) (M.1 4 2) M.2 (M.1 0) x1 hs8) hX (cwV 1 hts gX4_feed_X4_barFeed rfl rfl rfl hdX4_barFeed ⟨Nat.le_of_ble_eq_true rfl, Nat.le_of_ble_eq_true rfl⟩) hKs hK hP hD hS hA _ _ (md_mn cI am M) (md_mn cI am M).symm rfl rfl rfl rfl hl.1 (Nat.le_of_ble_eq_true rfl) dX4_feed_3 ⟨Nat.zero_le _, Nat.zero_le _⟩ (fun H locs hP hD hS => ?_)
  generalize ev1 : fx4_barFeed (M.1 0) x1 = v1 at hR hF ⊢
  replace hR := bnd_e hR
  replace hF := bnd_p hF
  refine kcI (ci := 4) (q0 := 0) (As := [.int v1]) (rest := []) E.1 (cx4_refused E am M v1) hX (cwV 1 hts gX4_feed_X4_refused rfl rfl rfl hdX4_refused ⟨Nat.le_of_ble_eq_true rfl, Nat.le_of_ble_eq_true rfl⟩) hKs hK hP hD hS hA _ _ (kw_self _) (kw_self _).symm rfl rfl rfl rfl hl.1 (Nat.le_of_ble_eq_true rfl) dX4_feed_6 ⟨Nat.zero_le _, Nat.zero_le _⟩ (fun H locs hP hD hS => ?_)
  have hP : va_P D vwCl (mdW cI am ((fx4_refused M v1).2)) H := hP
  have hD : va_D A (mdW cI am ((fx4_refused M v1).2)) := hD
  generalize eu2 : fx4_refused M v1 = u2 at hR hF hP hD ⊢
  replace hR := bnd_e hR
  replace hF := bnd_p hF
  refine lv_if_eq (tgt := 14) hx hb dX4_feed_9 (by decide) (fun c3 => ?_) (fun c3 => ?_)
  · rw [if_pos c3] at hR hF
    refine lv_aload_n hx hb dX4_feed_14 rfl (lv_at hl 0 rfl) ?_
    obtain ⟨hs7, hF⟩ := hF
    refine kcV (ci := 4) (q0 := 0) (As := []) (rest := []) E.1 (cx4_saves E am u2.2 hs7) hX (cwV 0 hts gX4_feed_X4_saves rfl rfl rfl hdX4_saves ⟨Nat.le_of_ble_eq_true rfl, Nat.le_of_ble_eq_true rfl⟩) hKs hK hP hD hS hA _ _ (kw_self _) (kw_self _).symm rfl rfl rfl rfl hl.1 (Nat.le_of_ble_eq_true rfl) dX4_feed_15 ⟨Nat.zero_le _, Nat.zero_le _⟩ (fun H locs hP hD hS => ?_)
    have hP : va_P D vwCl (mdW cI am (fx4_saves u2.2)) H := hP
    have hD : va_D A (mdW cI am (fx4_saves u2.2)) := hD
    generalize eM4 : fx4_saves u2.2 = M4 at hR hF hP hD
    replace hR := bnd_e hR
    replace hF := bnd_p hF
    refine lv_aload_n hx hb dX4_feed_18 rfl (lv_at hl 0 rfl) ?_
    refine lv_iload_n hx hb dX4_feed_19 rfl (lv_at hl 1 rfl) ?_
    have hs6 := hF
    refine kcI (ci := 4) (q0 := 0) (As := [.int x1]) (rest := []) E.1 (cx4_feeds E am (M4.1 4 0) (M4.1 4 1) (M4.1 4 2) M4.2 (M4.1 0) x1 hs6) hX (cwV 1 hts gX4_feed_X4_feeds rfl rfl rfl hdX4_feeds ⟨Nat.le_of_ble_eq_true rfl, Nat.le_of_ble_eq_true rfl⟩) hKs hK hP hD hS hA _ _ (md_mn cI am M4) (md_mn' cI am M4 _) rfl rfl rfl rfl hl.1 (Nat.le_of_ble_eq_true rfl) dX4_feed_20 ⟨Nat.zero_le _, Nat.zero_le _⟩ (fun H locs hP hD hS => ?_)
    have hP : va_P D vwCl (mdW cI am (va_up M4.1 0 ((fx4_feeds (M4.1 0) x1).2), M4.2)) H := hP
    have hD : va_D A (mdW cI am (va_up M4.1 0 ((fx4_feeds (M4.1 0) x1).2), M4.2)) := hD
    generalize eu5 : fx4_feeds (M4.1 0) x1 = u5 at hR hP hD ⊢
    replace hR := bnd_e hR
    subst hR
    exact krI hx hb hr hlk hP hD hS dX4_feed_23 rfl rfl
  · rw [if_neg c3] at hR hF
    refine lv_iconst (v := 0) hx hb dX4_feed_12 (by decide) ?_
    subst hR
    exact krI hx hb hr hlk hP hD hS dX4_feed_13 rfl rfl

theorem hdX4_slip : yX4_slip.cls = RX4 ∧ yX4_slip.cls ≠ "java/lang/invoke/MethodHandle" ∧ yX4_slip.cls ≠ "java/lang/invoke/VarHandle" ∧ (parseMethodDescriptor yX4_slip.desc).map (fun d => d.parameters.length) = some 2 := by decide +kernel
def fx4_slip (M : Md) (x1 : Int32) (x2 : Int32) : Int32 × (Md) := (bnd (fx4_itemOf (M.1 0) x1) (fun v1 => (if v1 = (-1) then (bnd (fx4_refused M 1) (fun u3 => (if u3.1 = 0 then (bnd (fx4_saves u3.2) (fun M5 => (bnd (upd (M5.1 0) (fx4_thing v1 1).toNatClampNeg (((M5.1 0) (fx4_thing v1 1).toNatClampNeg) + x2)) (fun g8 => (g8 (fx4_thing v1 1).toNatClampNeg, (va_up M5.1 0 g8, M5.2)))))) else (0, u3.2)))) else (if (fx4_within x2 (-30) 30) = 0 then (bnd (fx4_refused M 2) (fun u12 => (if u12.1 = 0 then (bnd (fx4_saves u12.2) (fun M14 => (bnd (upd (M14.1 0) (fx4_thing v1 1).toNatClampNeg (((M14.1 0) (fx4_thing v1 1).toNatClampNeg) + x2)) (fun g17 => (g17 (fx4_thing v1 1).toNatClampNeg, (va_up M14.1 0 g17, M14.2)))))) else (0, u12.2)))) else (if (fx4_within (((M.1 0) (fx4_thing v1 1).toNatClampNeg) + x2) 0 (((M.1 0) 11) - 1)) = 0 then (bnd (fx4_refused M 2) (fun u22 => (if u22.1 = 0 then (bnd (fx4_saves u22.2) (fun M24 => (bnd (upd (M24.1 0) (fx4_thing v1 1).toNatClampNeg (((M24.1 0) (fx4_thing v1 1).toNatClampNeg) + x2)) (fun g27 => (g27 (fx4_thing v1 1).toNatClampNeg, (va_up M24.1 0 g27, M24.2)))))) else (0, u22.2)))) else (bnd (fx4_refused M 0) (fun u30 => (if u30.1 = 0 then (bnd (fx4_saves u30.2) (fun M32 => (bnd (upd (M32.1 0) (fx4_thing v1 1).toNatClampNeg (((M32.1 0) (fx4_thing v1 1).toNatClampNeg) + x2)) (fun g35 => (g35 (fx4_thing v1 1).toNatClampNeg, (va_up M32.1 0 g35, M32.2)))))) else (0, u30.2)))))))))
def sx4_slip (M : Md) (x1 : Int32) (x2 : Int32) : Prop := (sx4_itemOf (M.1 0) x1 ∧ (bnd (fx4_itemOf (M.1 0) x1) (fun v1 => (if v1 = (-1) then (bnd (fx4_refused M 1) (fun u3 => (if u3.1 = 0 then (sx4_saves u3.2 ∧ (bnd (fx4_saves u3.2) (fun M5 => (vp_in (fx4_thing v1 1) 1203 ∧ (vp_in (fx4_thing v1 1) 1203 ∧ (bnd (upd (M5.1 0) (fx4_thing v1 1).toNatClampNeg (((M5.1 0) (fx4_thing v1 1).toNatClampNeg) + x2)) (fun g8 => vp_in (fx4_thing v1 1) 1203))))))) else True))) else (if (fx4_within x2 (-30) 30) = 0 then (bnd (fx4_refused M 2) (fun u12 => (if u12.1 = 0 then (sx4_saves u12.2 ∧ (bnd (fx4_saves u12.2) (fun M14 => (vp_in (fx4_thing v1 1) 1203 ∧ (vp_in (fx4_thing v1 1) 1203 ∧ (bnd (upd (M14.1 0) (fx4_thing v1 1).toNatClampNeg (((M14.1 0) (fx4_thing v1 1).toNatClampNeg) + x2)) (fun g17 => vp_in (fx4_thing v1 1) 1203))))))) else True))) else (vp_in (fx4_thing v1 1) 1203 ∧ (if (fx4_within (((M.1 0) (fx4_thing v1 1).toNatClampNeg) + x2) 0 (((M.1 0) 11) - 1)) = 0 then (bnd (fx4_refused M 2) (fun u22 => (if u22.1 = 0 then (sx4_saves u22.2 ∧ (bnd (fx4_saves u22.2) (fun M24 => (vp_in (fx4_thing v1 1) 1203 ∧ (vp_in (fx4_thing v1 1) 1203 ∧ (bnd (upd (M24.1 0) (fx4_thing v1 1).toNatClampNeg (((M24.1 0) (fx4_thing v1 1).toNatClampNeg) + x2)) (fun g27 => vp_in (fx4_thing v1 1) 1203))))))) else True))) else (bnd (fx4_refused M 0) (fun u30 => (if u30.1 = 0 then (sx4_saves u30.2 ∧ (bnd (fx4_saves u30.2) (fun M32 => (vp_in (fx4_thing v1 1) 1203 ∧ (vp_in (fx4_thing v1 1) 1203 ∧ (bnd (upd (M32.1 0) (fx4_thing v1 1).toNatClampNeg (((M32.1 0) (fx4_thing v1 1).toNatClampNeg) + x2)) (fun g35 => vp_in (fx4_thing v1 1) 1203))))))) else True))))))))))
set_option maxHeartbeats 4000000 in
set_option maxRecDepth 100000 in
theorem cx4_slip {l : Launch} {D : va_G} {cI cB cS cJ : ClassId} {K : State → Prop} (E : kE D cI cB cS cJ K) (am : Nat → Nat) (M : Md) (x1 : Int32) (x2 : Int32) (hF : sx4_slip M x1 x2) : kI l D K yX4_slip wsX4_slip 2 44 [.ref (am 0), .int x1, .int x2] (mdW cI am M) (fx4_slip M x1 x2).1 (mdW cI am ((fx4_slip M x1 x2).2)) := by
  refine kI_of (own := RX4) (cc := cX4_slip) (maxL := 5) (tys := kty cI cB cS cJ) (fun U h => (E.2 U h).1) (by decide) rfl rfl (Nat.le_of_ble_eq_true rfl) ?_
  intro p e s m below meth c A ls hx hb hr hml hts hown hlk hKs hK hP hD hA hS hl
  have hl : lv_has ls 5 [(0, .ref (am 0)), (1, .int x1), (2, .int x2)] := hl
  have hX : CallFix p m c cX4_slip 5 s _ wsX4_slip RX4 := ⟨hx, hb, hml, hown, hts⟩
  have hinX4 : ∀ w ∈ wsX40, w ∈ wsX4_slip := fun w h => List.mem_cons_of_mem _ (List.mem_append_right _ h)
  have q1 := hts (.fieldLink RX4 7 "LabelStationModel" "now" "[I") (List.mem_of_getElem? (i := 1) rfl)
  generalize hR : fx4_slip M x1 x2 = R
  rw [fx4_slip] at hR
  rw [sx4_slip] at hF
  refine lv_aload_n hx hb dX4_slip_0 rfl (lv_at hl 0 rfl) ?_
  refine lv_iload_n hx hb dX4_slip_1 rfl (lv_at hl 1 rfl) ?_
  obtain ⟨hs38, hF⟩ := hF
  refine kcI (ci := 4) (q0 := 0) (As := [.int x1]) (rest := []) E.1 (cx4_itemOf E am (M.1 4 0) (M.1 4 1) (M.1 4 2) M.2 (M.1 0) x1 hs38) hX (cwV 1 hts gX4_slip_X4_itemOf rfl rfl rfl hdX4_itemOf ⟨Nat.le_of_ble_eq_true rfl, Nat.le_of_ble_eq_true rfl⟩) hKs hK hP hD hS hA _ _ (md_mn cI am M) (md_mn cI am M).symm rfl rfl rfl rfl hl.1 (Nat.le_of_ble_eq_true rfl) dX4_slip_2 ⟨Nat.zero_le _, Nat.zero_le _⟩ (fun H locs hP hD hS => ?_)
  generalize ev1 : fx4_itemOf (M.1 0) x1 = v1 at hR hF ⊢
  replace hR := bnd_e hR
  replace hF := bnd_p hF
  refine lv_istore_n (lv' := [(3, .int v1), (0, .ref (am 0)), (1, .int x1), (2, .int x2)]) hx hb dX4_slip_5 rfl hl (by decide) rfl (fun ls hl => ?_)
  refine lv_iload_n hx hb dX4_slip_6 rfl (lv_at hl 0 rfl) ?_
  refine lv_iconst (v := (-1)) hx hb dX4_slip_7 (by decide) ?_
  refine lv_icmp_eq (tgt := 54) hx hb dX4_slip_8 (by decide) (fun c2 => ?_) (fun c2 => ?_)
  · rw [if_pos c2] at hR hF
    refine lv_iconst (v := 0) hx hb dX4_slip_54 (by decide) ?_
    refine lv_istore (lv' := [(4, .int 0), (3, .int v1), (0, .ref (am 0)), (1, .int x1), (2, .int x2)]) hx hb dX4_slip_55 hl (by decide) rfl (fun ls hl => ?_)
    refine lv_aload_n hx hb dX4_slip_57 rfl (lv_at hl 2 rfl) ?_
    refine lv_iload_n hx hb dX4_slip_58 rfl (lv_at hl 1 rfl) ?_
    refine lv_iconst (v := (-1)) hx hb dX4_slip_59 (by decide) ?_
    refine lv_icmp_ne (tgt := 67) hx hb dX4_slip_60 (by decide) (fun c => absurd c2 c) (fun _ => ?_)
    refine lv_iconst (v := 1) hx hb dX4_slip_63 (by decide) ?_
    refine lv_goto (tgt := 77) hx hb dX4_slip_64 (by decide) ?_
    refine kcI (ci := 4) (q0 := 0) (As := [.int 1]) (rest := []) E.1 (cx4_refused E am M 1) hX (cwV 1 hts gX4_slip_X4_refused rfl rfl rfl hdX4_refused ⟨Nat.le_of_ble_eq_true rfl, Nat.le_of_ble_eq_true rfl⟩) hKs hK hP hD hS hA _ _ (kw_self _) (kw_self _).symm rfl rfl rfl rfl hl.1 (Nat.le_of_ble_eq_true rfl) dX4_slip_77 ⟨Nat.zero_le _, Nat.zero_le _⟩ (fun H locs hP hD hS => ?_)
    have hP : va_P D vwCl (mdW cI am ((fx4_refused M 1).2)) H := hP
    have hD : va_D A (mdW cI am ((fx4_refused M 1).2)) := hD
    generalize eu3 : fx4_refused M 1 = u3 at hR hF hP hD ⊢
    replace hR := bnd_e hR
    replace hF := bnd_p hF
    refine lv_if_eq (tgt := 85) hx hb dX4_slip_80 (by decide) (fun c4 => ?_) (fun c4 => ?_)
    · rw [if_pos c4] at hR hF
      refine lv_aload_n hx hb dX4_slip_85 rfl (lv_at hl 2 rfl) ?_
      obtain ⟨hs10, hF⟩ := hF
      refine kcV (ci := 4) (q0 := 0) (As := []) (rest := []) E.1 (cx4_saves E am u3.2 hs10) hX (cwV 0 hts gX4_slip_X4_saves rfl rfl rfl hdX4_saves ⟨Nat.le_of_ble_eq_true rfl, Nat.le_of_ble_eq_true rfl⟩) hKs hK hP hD hS hA _ _ (kw_self _) (kw_self _).symm rfl rfl rfl rfl hl.1 (Nat.le_of_ble_eq_true rfl) dX4_slip_86 ⟨Nat.zero_le _, Nat.zero_le _⟩ (fun H locs hP hD hS => ?_)
      have hP : va_P D vwCl (mdW cI am (fx4_saves u3.2)) H := hP
      have hD : va_D A (mdW cI am (fx4_saves u3.2)) := hD
      generalize eM5 : fx4_saves u3.2 = M5 at hR hF hP hD
      replace hR := bnd_e hR
      replace hF := bnd_p hF
      refine lv_aload_n hx hb dX4_slip_89 rfl (lv_at hl 2 rfl) ?_
      refine va_get (D := D) (ci := 4) (v := .ref (am 1)) (C := RX4) (T := TX4) (N := 8) hx hb hts hinX4 hown hK hP 0 rfl rfl 0 (by decide) q1 (fun _ h9 => h9) rfl dX4_slip_90 ?_
      refine lv_iload_n hx hb dX4_slip_93 rfl (lv_at hl 1 rfl) ?_
      refine lv_iconst (v := 1) hx hb dX4_slip_94 (by decide) ?_
      refine kcsI (As := [.int v1, .int 1]) (rest := [.ref (am 1)]) E.1 (cx4_thing E v1 1) hX (va_cwS 2 hts gX4_slip_X4_thing rfl rfl rfl hdX4_thing.2 ⟨Nat.le_of_ble_eq_true rfl, Nat.le_of_ble_eq_true rfl⟩) hKs hP hD hS hA _ _ (kw_nil _) (kw_nil _).symm rfl rfl hl.1 (Nat.le_of_ble_eq_true rfl) dX4_slip_95 ⟨Nat.zero_le _, Nat.zero_le _⟩ (fun H locs hP hD hS => ?_)
      refine lv_dup2_11 hx hb dX4_slip_98 rfl rfl ?_
      obtain ⟨hi6, hF⟩ := hF
      refine va_iald hx hb hK hP 1 0 rfl rfl hi6 dX4_slip_99 ?_
      refine lv_iload_n hx hb dX4_slip_100 rfl (lv_at hl 4 rfl) ?_
      refine lv_iadd hx hb dX4_slip_101 ?_
      obtain ⟨hi7, hF⟩ := hF
      refine va_iast hx hb hK hP hD hS 1 0 rfl rfl hi7 dX4_slip_102 (fun H locs hP hD hS => ?_)
      have hP : va_P D vwCl (mdW cI am (va_up M5.1 0 (upd (M5.1 0) (fx4_thing v1 1).toNatClampNeg (((M5.1 0) (fx4_thing v1 1).toNatClampNeg) + x2)), M5.2)) H := hP
      have hD : va_D A (mdW cI am (va_up M5.1 0 (upd (M5.1 0) (fx4_thing v1 1).toNatClampNeg (((M5.1 0) (fx4_thing v1 1).toNatClampNeg) + x2)), M5.2)) := hD
      generalize eg8 : upd (M5.1 0) (fx4_thing v1 1).toNatClampNeg (((M5.1 0) (fx4_thing v1 1).toNatClampNeg) + x2) = g8 at hR hP hD hF
      replace hR := bnd_e hR
      replace hF := bnd_p hF
      refine lv_aload_n hx hb dX4_slip_103 rfl (lv_at hl 2 rfl) ?_
      refine va_get (D := D) (ci := 4) (v := .ref (am 1)) (C := RX4) (T := TX4) (N := 8) hx hb hts hinX4 hown hK hP 0 rfl rfl 0 (by decide) q1 (fun _ h9 => h9) rfl dX4_slip_104 ?_
      refine lv_iload_n hx hb dX4_slip_107 rfl (lv_at hl 1 rfl) ?_
      refine lv_iconst (v := 1) hx hb dX4_slip_108 (by decide) ?_
      refine kcsI (As := [.int v1, .int 1]) (rest := [.ref (am 1)]) E.1 (cx4_thing E v1 1) hX (va_cwS 2 hts gX4_slip_X4_thing rfl rfl rfl hdX4_thing.2 ⟨Nat.le_of_ble_eq_true rfl, Nat.le_of_ble_eq_true rfl⟩) hKs hP hD hS hA _ _ (kw_nil _) (kw_nil _).symm rfl rfl hl.1 (Nat.le_of_ble_eq_true rfl) dX4_slip_109 ⟨Nat.zero_le _, Nat.zero_le _⟩ (fun H locs hP hD hS => ?_)
      have hi9 := hF
      refine va_iald hx hb hK hP 1 0 rfl rfl hi9 dX4_slip_112 ?_
      subst hR
      exact krI hx hb hr hlk hP hD hS dX4_slip_113 rfl rfl
    · rw [if_neg c4] at hR hF
      refine lv_iconst (v := 0) hx hb dX4_slip_83 (by decide) ?_
      subst hR
      exact krI hx hb hr hlk hP hD hS dX4_slip_84 rfl rfl
  · rw [if_neg c2] at hR hF
    refine lv_iload_n hx hb dX4_slip_11 rfl (lv_at hl 3 rfl) ?_
    refine lv_bipush (v := (-30)) hx hb dX4_slip_12 (by decide) ?_
    refine lv_bipush (v := 30) hx hb dX4_slip_14 (by decide) ?_
    refine kcsI (As := [.int x2, .int (-30), .int 30]) (rest := []) E.1 (cx4_within E x2 (-30) 30) hX (va_cwS 3 hts gX4_slip_X4_within rfl rfl rfl hdX4_within.2 ⟨Nat.le_of_ble_eq_true rfl, Nat.le_of_ble_eq_true rfl⟩) hKs hP hD hS hA _ _ (kw_nil _) (kw_nil _).symm rfl rfl hl.1 (Nat.le_of_ble_eq_true rfl) dX4_slip_16 ⟨Nat.zero_le _, Nat.zero_le _⟩ (fun H locs hP hD hS => ?_)
    refine lv_if_eq (tgt := 54) hx hb dX4_slip_19 (by decide) (fun c11 => ?_) (fun c11 => ?_)
    · rw [if_pos c11] at hR hF
      refine lv_iconst (v := 0) hx hb dX4_slip_54 (by decide) ?_
      refine lv_istore (lv' := [(4, .int 0), (3, .int v1), (0, .ref (am 0)), (1, .int x1), (2, .int x2)]) hx hb dX4_slip_55 hl (by decide) rfl (fun ls hl => ?_)
      refine lv_aload_n hx hb dX4_slip_57 rfl (lv_at hl 2 rfl) ?_
      refine lv_iload_n hx hb dX4_slip_58 rfl (lv_at hl 1 rfl) ?_
      refine lv_iconst (v := (-1)) hx hb dX4_slip_59 (by decide) ?_
      refine lv_icmp_ne (tgt := 67) hx hb dX4_slip_60 (by decide) (fun _ => ?_) (fun c => absurd c c2)
      refine lv_iload hx hb dX4_slip_67 (lv_at hl 0 rfl) ?_
      refine lv_if_eq (tgt := 76) hx hb dX4_slip_69 (by decide) (fun _ => ?_) (fun c => absurd (by decide) c)
      refine lv_iconst (v := 2) hx hb dX4_slip_76 (by decide) ?_
      refine kcI (ci := 4) (q0 := 0) (As := [.int 2]) (rest := []) E.1 (cx4_refused E am M 2) hX (cwV 1 hts gX4_slip_X4_refused rfl rfl rfl hdX4_refused ⟨Nat.le_of_ble_eq_true rfl, Nat.le_of_ble_eq_true rfl⟩) hKs hK hP hD hS hA _ _ (kw_self _) (kw_self _).symm rfl rfl rfl rfl hl.1 (Nat.le_of_ble_eq_true rfl) dX4_slip_77 ⟨Nat.zero_le _, Nat.zero_le _⟩ (fun H locs hP hD hS => ?_)
      have hP : va_P D vwCl (mdW cI am ((fx4_refused M 2).2)) H := hP
      have hD : va_D A (mdW cI am ((fx4_refused M 2).2)) := hD
      generalize eu12 : fx4_refused M 2 = u12 at hR hF hP hD ⊢
      replace hR := bnd_e hR
      replace hF := bnd_p hF
      refine lv_if_eq (tgt := 85) hx hb dX4_slip_80 (by decide) (fun c13 => ?_) (fun c13 => ?_)
      · rw [if_pos c13] at hR hF
        refine lv_aload_n hx hb dX4_slip_85 rfl (lv_at hl 2 rfl) ?_
        obtain ⟨hs19, hF⟩ := hF
        refine kcV (ci := 4) (q0 := 0) (As := []) (rest := []) E.1 (cx4_saves E am u12.2 hs19) hX (cwV 0 hts gX4_slip_X4_saves rfl rfl rfl hdX4_saves ⟨Nat.le_of_ble_eq_true rfl, Nat.le_of_ble_eq_true rfl⟩) hKs hK hP hD hS hA _ _ (kw_self _) (kw_self _).symm rfl rfl rfl rfl hl.1 (Nat.le_of_ble_eq_true rfl) dX4_slip_86 ⟨Nat.zero_le _, Nat.zero_le _⟩ (fun H locs hP hD hS => ?_)
        have hP : va_P D vwCl (mdW cI am (fx4_saves u12.2)) H := hP
        have hD : va_D A (mdW cI am (fx4_saves u12.2)) := hD
        generalize eM14 : fx4_saves u12.2 = M14 at hR hF hP hD
        replace hR := bnd_e hR
        replace hF := bnd_p hF
        refine lv_aload_n hx hb dX4_slip_89 rfl (lv_at hl 2 rfl) ?_
        refine va_get (D := D) (ci := 4) (v := .ref (am 1)) (C := RX4) (T := TX4) (N := 8) hx hb hts hinX4 hown hK hP 0 rfl rfl 0 (by decide) q1 (fun _ h9 => h9) rfl dX4_slip_90 ?_
        refine lv_iload_n hx hb dX4_slip_93 rfl (lv_at hl 1 rfl) ?_
        refine lv_iconst (v := 1) hx hb dX4_slip_94 (by decide) ?_
        refine kcsI (As := [.int v1, .int 1]) (rest := [.ref (am 1)]) E.1 (cx4_thing E v1 1) hX (va_cwS 2 hts gX4_slip_X4_thing rfl rfl rfl hdX4_thing.2 ⟨Nat.le_of_ble_eq_true rfl, Nat.le_of_ble_eq_true rfl⟩) hKs hP hD hS hA _ _ (kw_nil _) (kw_nil _).symm rfl rfl hl.1 (Nat.le_of_ble_eq_true rfl) dX4_slip_95 ⟨Nat.zero_le _, Nat.zero_le _⟩ (fun H locs hP hD hS => ?_)
        refine lv_dup2_11 hx hb dX4_slip_98 rfl rfl ?_
        obtain ⟨hi15, hF⟩ := hF
        refine va_iald hx hb hK hP 1 0 rfl rfl hi15 dX4_slip_99 ?_
        refine lv_iload_n hx hb dX4_slip_100 rfl (lv_at hl 4 rfl) ?_
        refine lv_iadd hx hb dX4_slip_101 ?_
        obtain ⟨hi16, hF⟩ := hF
        refine va_iast hx hb hK hP hD hS 1 0 rfl rfl hi16 dX4_slip_102 (fun H locs hP hD hS => ?_)
        have hP : va_P D vwCl (mdW cI am (va_up M14.1 0 (upd (M14.1 0) (fx4_thing v1 1).toNatClampNeg (((M14.1 0) (fx4_thing v1 1).toNatClampNeg) + x2)), M14.2)) H := hP
        have hD : va_D A (mdW cI am (va_up M14.1 0 (upd (M14.1 0) (fx4_thing v1 1).toNatClampNeg (((M14.1 0) (fx4_thing v1 1).toNatClampNeg) + x2)), M14.2)) := hD
        generalize eg17 : upd (M14.1 0) (fx4_thing v1 1).toNatClampNeg (((M14.1 0) (fx4_thing v1 1).toNatClampNeg) + x2) = g17 at hR hP hD hF
        replace hR := bnd_e hR
        replace hF := bnd_p hF
        refine lv_aload_n hx hb dX4_slip_103 rfl (lv_at hl 2 rfl) ?_
        refine va_get (D := D) (ci := 4) (v := .ref (am 1)) (C := RX4) (T := TX4) (N := 8) hx hb hts hinX4 hown hK hP 0 rfl rfl 0 (by decide) q1 (fun _ h9 => h9) rfl dX4_slip_104 ?_
        refine lv_iload_n hx hb dX4_slip_107 rfl (lv_at hl 1 rfl) ?_
        refine lv_iconst (v := 1) hx hb dX4_slip_108 (by decide) ?_
        refine kcsI (As := [.int v1, .int 1]) (rest := [.ref (am 1)]) E.1 (cx4_thing E v1 1) hX (va_cwS 2 hts gX4_slip_X4_thing rfl rfl rfl hdX4_thing.2 ⟨Nat.le_of_ble_eq_true rfl, Nat.le_of_ble_eq_true rfl⟩) hKs hP hD hS hA _ _ (kw_nil _) (kw_nil _).symm rfl rfl hl.1 (Nat.le_of_ble_eq_true rfl) dX4_slip_109 ⟨Nat.zero_le _, Nat.zero_le _⟩ (fun H locs hP hD hS => ?_)
        have hi18 := hF
        refine va_iald hx hb hK hP 1 0 rfl rfl hi18 dX4_slip_112 ?_
        subst hR
        exact krI hx hb hr hlk hP hD hS dX4_slip_113 rfl rfl
      · rw [if_neg c13] at hR hF
        refine lv_iconst (v := 0) hx hb dX4_slip_83 (by decide) ?_
        subst hR
        exact krI hx hb hr hlk hP hD hS dX4_slip_84 rfl rfl
    · rw [if_neg c11] at hR hF
      refine lv_aload_n hx hb dX4_slip_22 rfl (lv_at hl 1 rfl) ?_
      refine va_get (D := D) (ci := 4) (v := .ref (am 1)) (C := RX4) (T := TX4) (N := 8) hx hb hts hinX4 hown hK hP 0 rfl rfl 0 (by decide) q1 (fun _ h9 => h9) rfl dX4_slip_23 ?_
      refine lv_iload_n hx hb dX4_slip_26 rfl (lv_at hl 0 rfl) ?_
      refine lv_iconst (v := 1) hx hb dX4_slip_27 (by decide) ?_
      refine kcsI (As := [.int v1, .int 1]) (rest := [.ref (am 1)]) E.1 (cx4_thing E v1 1) hX (va_cwS 2 hts gX4_slip_X4_thing rfl rfl rfl hdX4_thing.2 ⟨Nat.le_of_ble_eq_true rfl, Nat.le_of_ble_eq_true rfl⟩) hKs hP hD hS hA _ _ (kw_nil _) (kw_nil _).symm rfl rfl hl.1 (Nat.le_of_ble_eq_true rfl) dX4_slip_28 ⟨Nat.zero_le _, Nat.zero_le _⟩ (fun H locs hP hD hS => ?_)
      obtain ⟨hi20, hF⟩ := hF
      refine va_iald hx hb hK hP 1 0 rfl rfl hi20 dX4_slip_31 ?_
      refine lv_iload_n hx hb dX4_slip_32 rfl (lv_at hl 3 rfl) ?_
      refine lv_iadd hx hb dX4_slip_33 ?_
      refine lv_iconst (v := 0) hx hb dX4_slip_34 (by decide) ?_
      refine lv_aload_n hx hb dX4_slip_35 rfl (lv_at hl 1 rfl) ?_
      refine va_get (D := D) (ci := 4) (v := .ref (am 1)) (C := RX4) (T := TX4) (N := 8) hx hb hts hinX4 hown hK hP 0 rfl rfl 0 (by decide) q1 (fun _ h9 => h9) rfl dX4_slip_36 ?_
      refine lv_bipush (v := 11) hx hb dX4_slip_39 (by decide) ?_
      refine va_iald hx hb hK hP 1 0 rfl rfl (kin_lit (j := 11) (n := 1203) (by decide) (by decide)) dX4_slip_41 ?_
      refine kw_top (v := .int ((M.1 0) 11)) rfl ?_
      refine lv_iconst (v := 1) hx hb dX4_slip_42 (by decide) ?_
      refine lv_isub hx hb dX4_slip_43 ?_
      refine kcsI (As := [.int (((M.1 0) (fx4_thing v1 1).toNatClampNeg) + x2), .int 0, .int (((M.1 0) 11) - 1)]) (rest := []) E.1 (cx4_within E (((M.1 0) (fx4_thing v1 1).toNatClampNeg) + x2) 0 (((M.1 0) 11) - 1)) hX (va_cwS 3 hts gX4_slip_X4_within rfl rfl rfl hdX4_within.2 ⟨Nat.le_of_ble_eq_true rfl, Nat.le_of_ble_eq_true rfl⟩) hKs hP hD hS hA _ _ (kw_nil _) (kw_nil _).symm rfl rfl hl.1 (Nat.le_of_ble_eq_true rfl) dX4_slip_44 ⟨Nat.zero_le _, Nat.zero_le _⟩ (fun H locs hP hD hS => ?_)
      refine lv_if_eq (tgt := 54) hx hb dX4_slip_47 (by decide) (fun c21 => ?_) (fun c21 => ?_)
      · rw [if_pos c21] at hR hF
        refine lv_iconst (v := 0) hx hb dX4_slip_54 (by decide) ?_
        refine lv_istore (lv' := [(4, .int 0), (3, .int v1), (0, .ref (am 0)), (1, .int x1), (2, .int x2)]) hx hb dX4_slip_55 hl (by decide) rfl (fun ls hl => ?_)
        refine lv_aload_n hx hb dX4_slip_57 rfl (lv_at hl 2 rfl) ?_
        refine lv_iload_n hx hb dX4_slip_58 rfl (lv_at hl 1 rfl) ?_
        refine lv_iconst (v := (-1)) hx hb dX4_slip_59 (by decide) ?_
        refine lv_icmp_ne (tgt := 67) hx hb dX4_slip_60 (by decide) (fun _ => ?_) (fun c => absurd c c2)
        refine lv_iload hx hb dX4_slip_67 (lv_at hl 0 rfl) ?_
        refine lv_if_eq (tgt := 76) hx hb dX4_slip_69 (by decide) (fun _ => ?_) (fun c => absurd (by decide) c)
        refine lv_iconst (v := 2) hx hb dX4_slip_76 (by decide) ?_
        refine kcI (ci := 4) (q0 := 0) (As := [.int 2]) (rest := []) E.1 (cx4_refused E am M 2) hX (cwV 1 hts gX4_slip_X4_refused rfl rfl rfl hdX4_refused ⟨Nat.le_of_ble_eq_true rfl, Nat.le_of_ble_eq_true rfl⟩) hKs hK hP hD hS hA _ _ (kw_self _) (kw_self _).symm rfl rfl rfl rfl hl.1 (Nat.le_of_ble_eq_true rfl) dX4_slip_77 ⟨Nat.zero_le _, Nat.zero_le _⟩ (fun H locs hP hD hS => ?_)
        have hP : va_P D vwCl (mdW cI am ((fx4_refused M 2).2)) H := hP
        have hD : va_D A (mdW cI am ((fx4_refused M 2).2)) := hD
        generalize eu22 : fx4_refused M 2 = u22 at hR hF hP hD ⊢
        replace hR := bnd_e hR
        replace hF := bnd_p hF
        refine lv_if_eq (tgt := 85) hx hb dX4_slip_80 (by decide) (fun c23 => ?_) (fun c23 => ?_)
        · rw [if_pos c23] at hR hF
          refine lv_aload_n hx hb dX4_slip_85 rfl (lv_at hl 2 rfl) ?_
          obtain ⟨hs29, hF⟩ := hF
          refine kcV (ci := 4) (q0 := 0) (As := []) (rest := []) E.1 (cx4_saves E am u22.2 hs29) hX (cwV 0 hts gX4_slip_X4_saves rfl rfl rfl hdX4_saves ⟨Nat.le_of_ble_eq_true rfl, Nat.le_of_ble_eq_true rfl⟩) hKs hK hP hD hS hA _ _ (kw_self _) (kw_self _).symm rfl rfl rfl rfl hl.1 (Nat.le_of_ble_eq_true rfl) dX4_slip_86 ⟨Nat.zero_le _, Nat.zero_le _⟩ (fun H locs hP hD hS => ?_)
          have hP : va_P D vwCl (mdW cI am (fx4_saves u22.2)) H := hP
          have hD : va_D A (mdW cI am (fx4_saves u22.2)) := hD
          generalize eM24 : fx4_saves u22.2 = M24 at hR hF hP hD
          replace hR := bnd_e hR
          replace hF := bnd_p hF
          refine lv_aload_n hx hb dX4_slip_89 rfl (lv_at hl 2 rfl) ?_
          refine va_get (D := D) (ci := 4) (v := .ref (am 1)) (C := RX4) (T := TX4) (N := 8) hx hb hts hinX4 hown hK hP 0 rfl rfl 0 (by decide) q1 (fun _ h9 => h9) rfl dX4_slip_90 ?_
          refine lv_iload_n hx hb dX4_slip_93 rfl (lv_at hl 1 rfl) ?_
          refine lv_iconst (v := 1) hx hb dX4_slip_94 (by decide) ?_
          refine kcsI (As := [.int v1, .int 1]) (rest := [.ref (am 1)]) E.1 (cx4_thing E v1 1) hX (va_cwS 2 hts gX4_slip_X4_thing rfl rfl rfl hdX4_thing.2 ⟨Nat.le_of_ble_eq_true rfl, Nat.le_of_ble_eq_true rfl⟩) hKs hP hD hS hA _ _ (kw_nil _) (kw_nil _).symm rfl rfl hl.1 (Nat.le_of_ble_eq_true rfl) dX4_slip_95 ⟨Nat.zero_le _, Nat.zero_le _⟩ (fun H locs hP hD hS => ?_)
          refine lv_dup2_11 hx hb dX4_slip_98 rfl rfl ?_
          obtain ⟨hi25, hF⟩ := hF
          refine va_iald hx hb hK hP 1 0 rfl rfl hi25 dX4_slip_99 ?_
          refine lv_iload_n hx hb dX4_slip_100 rfl (lv_at hl 4 rfl) ?_
          refine lv_iadd hx hb dX4_slip_101 ?_
          obtain ⟨hi26, hF⟩ := hF
          refine va_iast hx hb hK hP hD hS 1 0 rfl rfl hi26 dX4_slip_102 (fun H locs hP hD hS => ?_)
          have hP : va_P D vwCl (mdW cI am (va_up M24.1 0 (upd (M24.1 0) (fx4_thing v1 1).toNatClampNeg (((M24.1 0) (fx4_thing v1 1).toNatClampNeg) + x2)), M24.2)) H := hP
          have hD : va_D A (mdW cI am (va_up M24.1 0 (upd (M24.1 0) (fx4_thing v1 1).toNatClampNeg (((M24.1 0) (fx4_thing v1 1).toNatClampNeg) + x2)), M24.2)) := hD
          generalize eg27 : upd (M24.1 0) (fx4_thing v1 1).toNatClampNeg (((M24.1 0) (fx4_thing v1 1).toNatClampNeg) + x2) = g27 at hR hP hD hF
          replace hR := bnd_e hR
          replace hF := bnd_p hF
          refine lv_aload_n hx hb dX4_slip_103 rfl (lv_at hl 2 rfl) ?_
          refine va_get (D := D) (ci := 4) (v := .ref (am 1)) (C := RX4) (T := TX4) (N := 8) hx hb hts hinX4 hown hK hP 0 rfl rfl 0 (by decide) q1 (fun _ h9 => h9) rfl dX4_slip_104 ?_
          refine lv_iload_n hx hb dX4_slip_107 rfl (lv_at hl 1 rfl) ?_
          refine lv_iconst (v := 1) hx hb dX4_slip_108 (by decide) ?_
          refine kcsI (As := [.int v1, .int 1]) (rest := [.ref (am 1)]) E.1 (cx4_thing E v1 1) hX (va_cwS 2 hts gX4_slip_X4_thing rfl rfl rfl hdX4_thing.2 ⟨Nat.le_of_ble_eq_true rfl, Nat.le_of_ble_eq_true rfl⟩) hKs hP hD hS hA _ _ (kw_nil _) (kw_nil _).symm rfl rfl hl.1 (Nat.le_of_ble_eq_true rfl) dX4_slip_109 ⟨Nat.zero_le _, Nat.zero_le _⟩ (fun H locs hP hD hS => ?_)
          have hi28 := hF
          refine va_iald hx hb hK hP 1 0 rfl rfl hi28 dX4_slip_112 ?_
          subst hR
          exact krI hx hb hr hlk hP hD hS dX4_slip_113 rfl rfl
        · rw [if_neg c23] at hR hF
          refine lv_iconst (v := 0) hx hb dX4_slip_83 (by decide) ?_
          subst hR
          exact krI hx hb hr hlk hP hD hS dX4_slip_84 rfl rfl
      · rw [if_neg c21] at hR hF
        refine lv_iconst (v := 1) hx hb dX4_slip_50 (by decide) ?_
        refine lv_goto (tgt := 55) hx hb dX4_slip_51 (by decide) ?_
        refine lv_istore (lv' := [(4, .int 1), (3, .int v1), (0, .ref (am 0)), (1, .int x1), (2, .int x2)]) hx hb dX4_slip_55 hl (by decide) rfl (fun ls hl => ?_)
        refine lv_aload_n hx hb dX4_slip_57 rfl (lv_at hl 2 rfl) ?_
        refine lv_iload_n hx hb dX4_slip_58 rfl (lv_at hl 1 rfl) ?_
        refine lv_iconst (v := (-1)) hx hb dX4_slip_59 (by decide) ?_
        refine lv_icmp_ne (tgt := 67) hx hb dX4_slip_60 (by decide) (fun _ => ?_) (fun c => absurd c c2)
        refine lv_iload hx hb dX4_slip_67 (lv_at hl 0 rfl) ?_
        refine lv_if_eq (tgt := 76) hx hb dX4_slip_69 (by decide) (fun c => absurd c (by decide)) (fun _ => ?_)
        refine lv_iconst (v := 0) hx hb dX4_slip_72 (by decide) ?_
        refine lv_goto (tgt := 77) hx hb dX4_slip_73 (by decide) ?_
        refine kcI (ci := 4) (q0 := 0) (As := [.int 0]) (rest := []) E.1 (cx4_refused E am M 0) hX (cwV 1 hts gX4_slip_X4_refused rfl rfl rfl hdX4_refused ⟨Nat.le_of_ble_eq_true rfl, Nat.le_of_ble_eq_true rfl⟩) hKs hK hP hD hS hA _ _ (kw_self _) (kw_self _).symm rfl rfl rfl rfl hl.1 (Nat.le_of_ble_eq_true rfl) dX4_slip_77 ⟨Nat.zero_le _, Nat.zero_le _⟩ (fun H locs hP hD hS => ?_)
        have hP : va_P D vwCl (mdW cI am ((fx4_refused M 0).2)) H := hP
        have hD : va_D A (mdW cI am ((fx4_refused M 0).2)) := hD
        generalize eu30 : fx4_refused M 0 = u30 at hR hF hP hD ⊢
        replace hR := bnd_e hR
        replace hF := bnd_p hF
        refine lv_if_eq (tgt := 85) hx hb dX4_slip_80 (by decide) (fun c31 => ?_) (fun c31 => ?_)
        · rw [if_pos c31] at hR hF
          refine lv_aload_n hx hb dX4_slip_85 rfl (lv_at hl 2 rfl) ?_
          obtain ⟨hs37, hF⟩ := hF
          refine kcV (ci := 4) (q0 := 0) (As := []) (rest := []) E.1 (cx4_saves E am u30.2 hs37) hX (cwV 0 hts gX4_slip_X4_saves rfl rfl rfl hdX4_saves ⟨Nat.le_of_ble_eq_true rfl, Nat.le_of_ble_eq_true rfl⟩) hKs hK hP hD hS hA _ _ (kw_self _) (kw_self _).symm rfl rfl rfl rfl hl.1 (Nat.le_of_ble_eq_true rfl) dX4_slip_86 ⟨Nat.zero_le _, Nat.zero_le _⟩ (fun H locs hP hD hS => ?_)
          have hP : va_P D vwCl (mdW cI am (fx4_saves u30.2)) H := hP
          have hD : va_D A (mdW cI am (fx4_saves u30.2)) := hD
          generalize eM32 : fx4_saves u30.2 = M32 at hR hF hP hD
          replace hR := bnd_e hR
          replace hF := bnd_p hF
          refine lv_aload_n hx hb dX4_slip_89 rfl (lv_at hl 2 rfl) ?_
          refine va_get (D := D) (ci := 4) (v := .ref (am 1)) (C := RX4) (T := TX4) (N := 8) hx hb hts hinX4 hown hK hP 0 rfl rfl 0 (by decide) q1 (fun _ h9 => h9) rfl dX4_slip_90 ?_
          refine lv_iload_n hx hb dX4_slip_93 rfl (lv_at hl 1 rfl) ?_
          refine lv_iconst (v := 1) hx hb dX4_slip_94 (by decide) ?_
          refine kcsI (As := [.int v1, .int 1]) (rest := [.ref (am 1)]) E.1 (cx4_thing E v1 1) hX (va_cwS 2 hts gX4_slip_X4_thing rfl rfl rfl hdX4_thing.2 ⟨Nat.le_of_ble_eq_true rfl, Nat.le_of_ble_eq_true rfl⟩) hKs hP hD hS hA _ _ (kw_nil _) (kw_nil _).symm rfl rfl hl.1 (Nat.le_of_ble_eq_true rfl) dX4_slip_95 ⟨Nat.zero_le _, Nat.zero_le _⟩ (fun H locs hP hD hS => ?_)
          refine lv_dup2_11 hx hb dX4_slip_98 rfl rfl ?_
          obtain ⟨hi33, hF⟩ := hF
          refine va_iald hx hb hK hP 1 0 rfl rfl hi33 dX4_slip_99 ?_
          refine lv_iload_n hx hb dX4_slip_100 rfl (lv_at hl 4 rfl) ?_
          refine lv_iadd hx hb dX4_slip_101 ?_
          obtain ⟨hi34, hF⟩ := hF
          refine va_iast hx hb hK hP hD hS 1 0 rfl rfl hi34 dX4_slip_102 (fun H locs hP hD hS => ?_)
          have hP : va_P D vwCl (mdW cI am (va_up M32.1 0 (upd (M32.1 0) (fx4_thing v1 1).toNatClampNeg (((M32.1 0) (fx4_thing v1 1).toNatClampNeg) + x2)), M32.2)) H := hP
          have hD : va_D A (mdW cI am (va_up M32.1 0 (upd (M32.1 0) (fx4_thing v1 1).toNatClampNeg (((M32.1 0) (fx4_thing v1 1).toNatClampNeg) + x2)), M32.2)) := hD
          generalize eg35 : upd (M32.1 0) (fx4_thing v1 1).toNatClampNeg (((M32.1 0) (fx4_thing v1 1).toNatClampNeg) + x2) = g35 at hR hP hD hF
          replace hR := bnd_e hR
          replace hF := bnd_p hF
          refine lv_aload_n hx hb dX4_slip_103 rfl (lv_at hl 2 rfl) ?_
          refine va_get (D := D) (ci := 4) (v := .ref (am 1)) (C := RX4) (T := TX4) (N := 8) hx hb hts hinX4 hown hK hP 0 rfl rfl 0 (by decide) q1 (fun _ h9 => h9) rfl dX4_slip_104 ?_
          refine lv_iload_n hx hb dX4_slip_107 rfl (lv_at hl 1 rfl) ?_
          refine lv_iconst (v := 1) hx hb dX4_slip_108 (by decide) ?_
          refine kcsI (As := [.int v1, .int 1]) (rest := [.ref (am 1)]) E.1 (cx4_thing E v1 1) hX (va_cwS 2 hts gX4_slip_X4_thing rfl rfl rfl hdX4_thing.2 ⟨Nat.le_of_ble_eq_true rfl, Nat.le_of_ble_eq_true rfl⟩) hKs hP hD hS hA _ _ (kw_nil _) (kw_nil _).symm rfl rfl hl.1 (Nat.le_of_ble_eq_true rfl) dX4_slip_109 ⟨Nat.zero_le _, Nat.zero_le _⟩ (fun H locs hP hD hS => ?_)
          have hi36 := hF
          refine va_iald hx hb hK hP 1 0 rfl rfl hi36 dX4_slip_112 ?_
          subst hR
          exact krI hx hb hr hlk hP hD hS dX4_slip_113 rfl rfl
        · rw [if_neg c31] at hR hF
          refine lv_iconst (v := 0) hx hb dX4_slip_83 (by decide) ?_
          subst hR
          exact krI hx hb hr hlk hP hD hS dX4_slip_84 rfl rfl

theorem hdX4_take : yX4_take.cls = RX4 ∧ yX4_take.cls ≠ "java/lang/invoke/MethodHandle" ∧ yX4_take.cls ≠ "java/lang/invoke/VarHandle" ∧ (parseMethodDescriptor yX4_take.desc).map (fun d => d.parameters.length) = some 1 := by decide +kernel
def fx4_take (M : Md) (x1 : Int32) : Int32 × (Md) := (bnd (fx4_itemOf (M.1 0) x1) (fun v1 => (if v1 = (-1) then (bnd (fx4_refused M 1) (fun u3 => (if u3.1 = 0 then (bnd (fx4_saves u3.2) (fun M5 => (bnd (fx4_drops (M5.1 0) 36 37 4 v1) (fun M7 => (bnd (fx4_counts M7 7) (fun M8 => ((M5.1 0) (fx4_thing v1 1).toNatClampNeg, (va_up (va_up M5.1 0 M7) 0 M8, M5.2)))))))) else (0, u3.2)))) else (bnd (fx4_refused M 0) (fun u12 => (if u12.1 = 0 then (bnd (fx4_saves u12.2) (fun M14 => (bnd (fx4_drops (M14.1 0) 36 37 4 v1) (fun M16 => (bnd (fx4_counts M16 7) (fun M17 => ((M14.1 0) (fx4_thing v1 1).toNatClampNeg, (va_up (va_up M14.1 0 M16) 0 M17, M14.2)))))))) else (0, u12.2)))))))
def sx4_take (M : Md) (x1 : Int32) : Prop := (sx4_itemOf (M.1 0) x1 ∧ (bnd (fx4_itemOf (M.1 0) x1) (fun v1 => (if v1 = (-1) then (bnd (fx4_refused M 1) (fun u3 => (if u3.1 = 0 then (sx4_saves u3.2 ∧ (bnd (fx4_saves u3.2) (fun M5 => (vp_in (fx4_thing v1 1) 1203 ∧ (sx4_drops (M5.1 0) 36 37 4 v1 ∧ (bnd (fx4_drops (M5.1 0) 36 37 4 v1) (fun M7 => sx4_counts M7 7))))))) else True))) else (bnd (fx4_refused M 0) (fun u12 => (if u12.1 = 0 then (sx4_saves u12.2 ∧ (bnd (fx4_saves u12.2) (fun M14 => (vp_in (fx4_thing v1 1) 1203 ∧ (sx4_drops (M14.1 0) 36 37 4 v1 ∧ (bnd (fx4_drops (M14.1 0) 36 37 4 v1) (fun M16 => sx4_counts M16 7))))))) else True)))))))
set_option maxHeartbeats 4000000 in
set_option maxRecDepth 100000 in
theorem cx4_take {l : Launch} {D : va_G} {cI cB cS cJ : ClassId} {K : State → Prop} (E : kE D cI cB cS cJ K) (am : Nat → Nat) (M : Md) (x1 : Int32) (hF : sx4_take M x1) : kI l D K yX4_take wsX4_take 2 44 [.ref (am 0), .int x1] (mdW cI am M) (fx4_take M x1).1 (mdW cI am ((fx4_take M x1).2)) := by
  refine kI_of (own := RX4) (cc := cX4_take) (maxL := 4) (tys := kty cI cB cS cJ) (fun U h => (E.2 U h).1) (by decide) rfl rfl (Nat.le_of_ble_eq_true rfl) ?_
  intro p e s m below meth c A ls hx hb hr hml hts hown hlk hKs hK hP hD hA hS hl
  have hl : lv_has ls 4 [(0, .ref (am 0)), (1, .int x1)] := hl
  have hX : CallFix p m c cX4_take 4 s _ wsX4_take RX4 := ⟨hx, hb, hml, hown, hts⟩
  have hinX4 : ∀ w ∈ wsX40, w ∈ wsX4_take := fun w h => List.mem_cons_of_mem _ (List.mem_append_right _ h)
  have q1 := hts (.fieldLink RX4 7 "LabelStationModel" "now" "[I") (List.mem_of_getElem? (i := 1) rfl)
  generalize hR : fx4_take M x1 = R
  rw [fx4_take] at hR
  rw [sx4_take] at hF
  refine lv_aload_n hx hb dX4_take_0 rfl (lv_at hl 0 rfl) ?_
  refine lv_iload_n hx hb dX4_take_1 rfl (lv_at hl 1 rfl) ?_
  obtain ⟨hs21, hF⟩ := hF
  refine kcI (ci := 4) (q0 := 0) (As := [.int x1]) (rest := []) E.1 (cx4_itemOf E am (M.1 4 0) (M.1 4 1) (M.1 4 2) M.2 (M.1 0) x1 hs21) hX (cwV 1 hts gX4_take_X4_itemOf rfl rfl rfl hdX4_itemOf ⟨Nat.le_of_ble_eq_true rfl, Nat.le_of_ble_eq_true rfl⟩) hKs hK hP hD hS hA _ _ (md_mn cI am M) (md_mn cI am M).symm rfl rfl rfl rfl hl.1 (Nat.le_of_ble_eq_true rfl) dX4_take_2 ⟨Nat.zero_le _, Nat.zero_le _⟩ (fun H locs hP hD hS => ?_)
  generalize ev1 : fx4_itemOf (M.1 0) x1 = v1 at hR hF ⊢
  replace hR := bnd_e hR
  replace hF := bnd_p hF
  refine lv_istore_n (lv' := [(2, .int v1), (0, .ref (am 0)), (1, .int x1)]) hx hb dX4_take_5 rfl hl (by decide) rfl (fun ls hl => ?_)
  refine lv_aload_n hx hb dX4_take_6 rfl (lv_at hl 1 rfl) ?_
  refine lv_iload_n hx hb dX4_take_7 rfl (lv_at hl 0 rfl) ?_
  refine lv_iconst (v := (-1)) hx hb dX4_take_8 (by decide) ?_
  refine lv_icmp_ne (tgt := 16) hx hb dX4_take_9 (by decide) (fun c2 => ?_) (fun c2 => ?_)
  · rw [if_neg c2] at hR hF
    refine lv_iconst (v := 0) hx hb dX4_take_16 (by decide) ?_
    refine kcI (ci := 4) (q0 := 0) (As := [.int 0]) (rest := []) E.1 (cx4_refused E am M 0) hX (cwV 1 hts gX4_take_X4_refused rfl rfl rfl hdX4_refused ⟨Nat.le_of_ble_eq_true rfl, Nat.le_of_ble_eq_true rfl⟩) hKs hK hP hD hS hA _ _ (kw_self _) (kw_self _).symm rfl rfl rfl rfl hl.1 (Nat.le_of_ble_eq_true rfl) dX4_take_17 ⟨Nat.zero_le _, Nat.zero_le _⟩ (fun H locs hP hD hS => ?_)
    have hP : va_P D vwCl (mdW cI am ((fx4_refused M 0).2)) H := hP
    have hD : va_D A (mdW cI am ((fx4_refused M 0).2)) := hD
    generalize eu12 : fx4_refused M 0 = u12 at hR hF hP hD ⊢
    replace hR := bnd_e hR
    replace hF := bnd_p hF
    refine lv_if_eq (tgt := 25) hx hb dX4_take_20 (by decide) (fun c13 => ?_) (fun c13 => ?_)
    · rw [if_pos c13] at hR hF
      refine lv_aload_n hx hb dX4_take_25 rfl (lv_at hl 1 rfl) ?_
      obtain ⟨hs20, hF⟩ := hF
      refine kcV (ci := 4) (q0 := 0) (As := []) (rest := []) E.1 (cx4_saves E am u12.2 hs20) hX (cwV 0 hts gX4_take_X4_saves rfl rfl rfl hdX4_saves ⟨Nat.le_of_ble_eq_true rfl, Nat.le_of_ble_eq_true rfl⟩) hKs hK hP hD hS hA _ _ (kw_self _) (kw_self _).symm rfl rfl rfl rfl hl.1 (Nat.le_of_ble_eq_true rfl) dX4_take_26 ⟨Nat.zero_le _, Nat.zero_le _⟩ (fun H locs hP hD hS => ?_)
      have hP : va_P D vwCl (mdW cI am (fx4_saves u12.2)) H := hP
      have hD : va_D A (mdW cI am (fx4_saves u12.2)) := hD
      generalize eM14 : fx4_saves u12.2 = M14 at hR hF hP hD
      replace hR := bnd_e hR
      replace hF := bnd_p hF
      refine lv_aload_n hx hb dX4_take_29 rfl (lv_at hl 1 rfl) ?_
      refine va_get (D := D) (ci := 4) (v := .ref (am 1)) (C := RX4) (T := TX4) (N := 8) hx hb hts hinX4 hown hK hP 0 rfl rfl 0 (by decide) q1 (fun _ h9 => h9) rfl dX4_take_30 ?_
      refine lv_iload_n hx hb dX4_take_33 rfl (lv_at hl 0 rfl) ?_
      refine lv_iconst (v := 1) hx hb dX4_take_34 (by decide) ?_
      refine kcsI (As := [.int v1, .int 1]) (rest := [.ref (am 1)]) E.1 (cx4_thing E v1 1) hX (va_cwS 2 hts gX4_take_X4_thing rfl rfl rfl hdX4_thing.2 ⟨Nat.le_of_ble_eq_true rfl, Nat.le_of_ble_eq_true rfl⟩) hKs hP hD hS hA _ _ (kw_nil _) (kw_nil _).symm rfl rfl hl.1 (Nat.le_of_ble_eq_true rfl) dX4_take_35 ⟨Nat.zero_le _, Nat.zero_le _⟩ (fun H locs hP hD hS => ?_)
      obtain ⟨hi15, hF⟩ := hF
      refine va_iald hx hb hK hP 1 0 rfl rfl hi15 dX4_take_38 ?_
      refine lv_istore_n (lv' := [(3, .int ((M14.1 0) (fx4_thing v1 1).toNatClampNeg)), (2, .int v1), (0, .ref (am 0)), (1, .int x1)]) hx hb dX4_take_39 rfl hl (by decide) rfl (fun ls hl => ?_)
      refine lv_aload_n hx hb dX4_take_40 rfl (lv_at hl 2 rfl) ?_
      refine lv_bipush (v := 36) hx hb dX4_take_41 (by decide) ?_
      refine lv_bipush (v := 37) hx hb dX4_take_43 (by decide) ?_
      refine lv_iconst (v := 4) hx hb dX4_take_45 (by decide) ?_
      refine lv_iload_n hx hb dX4_take_46 rfl (lv_at hl 1 rfl) ?_
      obtain ⟨hs19, hF⟩ := hF
      refine kcV (ci := 4) (q0 := 0) (As := [.int 36, .int 37, .int 4, .int v1]) (rest := []) E.1 (cx4_drops E am (M14.1 4 0) (M14.1 4 1) (M14.1 4 2) M14.2 (M14.1 0) 36 37 4 v1 hs19) hX (cwV 4 hts gX4_take_X4_drops rfl rfl rfl hdX4_drops ⟨Nat.le_of_ble_eq_true rfl, Nat.le_of_ble_eq_true rfl⟩) hKs hK hP hD hS hA _ _ (md_mn cI am M14) (md_mn' cI am M14 _) rfl rfl rfl rfl hl.1 (Nat.le_of_ble_eq_true rfl) dX4_take_47 ⟨Nat.zero_le _, Nat.zero_le _⟩ (fun H locs hP hD hS => ?_)
      have hP : va_P D vwCl (mdW cI am (va_up M14.1 0 (fx4_drops (M14.1 0) 36 37 4 v1), M14.2)) H := hP
      have hD : va_D A (mdW cI am (va_up M14.1 0 (fx4_drops (M14.1 0) 36 37 4 v1), M14.2)) := hD
      generalize eM16 : fx4_drops (M14.1 0) 36 37 4 v1 = M16 at hR hF hP hD
      replace hR := bnd_e hR
      replace hF := bnd_p hF
      refine lv_aload_n hx hb dX4_take_50 rfl (lv_at hl 2 rfl) ?_
      refine lv_bipush (v := 7) hx hb dX4_take_51 (by decide) ?_
      have hs18 := hF
      refine kcV (ci := 4) (q0 := 0) (As := [.int 7]) (rest := []) E.1 (cx4_counts E am (M14.1 4 0) (M14.1 4 1) (M14.1 4 2) M14.2 M16 7 hs18) hX (cwV 1 hts gX4_take_X4_counts rfl rfl rfl hdX4_counts ⟨Nat.le_of_ble_eq_true rfl, Nat.le_of_ble_eq_true rfl⟩) hKs hK hP hD hS hA _ _ (md_mn cI am (va_up M14.1 0 M16, M14.2)) (md_mn' cI am (va_up M14.1 0 M16, M14.2) _) rfl rfl rfl rfl hl.1 (Nat.le_of_ble_eq_true rfl) dX4_take_53 ⟨Nat.zero_le _, Nat.zero_le _⟩ (fun H locs hP hD hS => ?_)
      have hP : va_P D vwCl (mdW cI am (va_up (va_up M14.1 0 M16) 0 (fx4_counts M16 7), M14.2)) H := hP
      have hD : va_D A (mdW cI am (va_up (va_up M14.1 0 M16) 0 (fx4_counts M16 7), M14.2)) := hD
      generalize eM17 : fx4_counts M16 7 = M17 at hR hP hD
      replace hR := bnd_e hR
      refine lv_iload_n hx hb dX4_take_56 rfl (lv_at hl 0 rfl) ?_
      subst hR
      exact krI hx hb hr hlk hP hD hS dX4_take_57 rfl rfl
    · rw [if_neg c13] at hR hF
      refine lv_iconst (v := 0) hx hb dX4_take_23 (by decide) ?_
      subst hR
      exact krI hx hb hr hlk hP hD hS dX4_take_24 rfl rfl
  · rw [if_pos c2] at hR hF
    refine lv_iconst (v := 1) hx hb dX4_take_12 (by decide) ?_
    refine lv_goto (tgt := 17) hx hb dX4_take_13 (by decide) ?_
    refine kcI (ci := 4) (q0 := 0) (As := [.int 1]) (rest := []) E.1 (cx4_refused E am M 1) hX (cwV 1 hts gX4_take_X4_refused rfl rfl rfl hdX4_refused ⟨Nat.le_of_ble_eq_true rfl, Nat.le_of_ble_eq_true rfl⟩) hKs hK hP hD hS hA _ _ (kw_self _) (kw_self _).symm rfl rfl rfl rfl hl.1 (Nat.le_of_ble_eq_true rfl) dX4_take_17 ⟨Nat.zero_le _, Nat.zero_le _⟩ (fun H locs hP hD hS => ?_)
    have hP : va_P D vwCl (mdW cI am ((fx4_refused M 1).2)) H := hP
    have hD : va_D A (mdW cI am ((fx4_refused M 1).2)) := hD
    generalize eu3 : fx4_refused M 1 = u3 at hR hF hP hD ⊢
    replace hR := bnd_e hR
    replace hF := bnd_p hF
    refine lv_if_eq (tgt := 25) hx hb dX4_take_20 (by decide) (fun c4 => ?_) (fun c4 => ?_)
    · rw [if_pos c4] at hR hF
      refine lv_aload_n hx hb dX4_take_25 rfl (lv_at hl 1 rfl) ?_
      obtain ⟨hs11, hF⟩ := hF
      refine kcV (ci := 4) (q0 := 0) (As := []) (rest := []) E.1 (cx4_saves E am u3.2 hs11) hX (cwV 0 hts gX4_take_X4_saves rfl rfl rfl hdX4_saves ⟨Nat.le_of_ble_eq_true rfl, Nat.le_of_ble_eq_true rfl⟩) hKs hK hP hD hS hA _ _ (kw_self _) (kw_self _).symm rfl rfl rfl rfl hl.1 (Nat.le_of_ble_eq_true rfl) dX4_take_26 ⟨Nat.zero_le _, Nat.zero_le _⟩ (fun H locs hP hD hS => ?_)
      have hP : va_P D vwCl (mdW cI am (fx4_saves u3.2)) H := hP
      have hD : va_D A (mdW cI am (fx4_saves u3.2)) := hD
      generalize eM5 : fx4_saves u3.2 = M5 at hR hF hP hD
      replace hR := bnd_e hR
      replace hF := bnd_p hF
      refine lv_aload_n hx hb dX4_take_29 rfl (lv_at hl 1 rfl) ?_
      refine va_get (D := D) (ci := 4) (v := .ref (am 1)) (C := RX4) (T := TX4) (N := 8) hx hb hts hinX4 hown hK hP 0 rfl rfl 0 (by decide) q1 (fun _ h9 => h9) rfl dX4_take_30 ?_
      refine lv_iload_n hx hb dX4_take_33 rfl (lv_at hl 0 rfl) ?_
      refine lv_iconst (v := 1) hx hb dX4_take_34 (by decide) ?_
      refine kcsI (As := [.int v1, .int 1]) (rest := [.ref (am 1)]) E.1 (cx4_thing E v1 1) hX (va_cwS 2 hts gX4_take_X4_thing rfl rfl rfl hdX4_thing.2 ⟨Nat.le_of_ble_eq_true rfl, Nat.le_of_ble_eq_true rfl⟩) hKs hP hD hS hA _ _ (kw_nil _) (kw_nil _).symm rfl rfl hl.1 (Nat.le_of_ble_eq_true rfl) dX4_take_35 ⟨Nat.zero_le _, Nat.zero_le _⟩ (fun H locs hP hD hS => ?_)
      obtain ⟨hi6, hF⟩ := hF
      refine va_iald hx hb hK hP 1 0 rfl rfl hi6 dX4_take_38 ?_
      refine lv_istore_n (lv' := [(3, .int ((M5.1 0) (fx4_thing v1 1).toNatClampNeg)), (2, .int v1), (0, .ref (am 0)), (1, .int x1)]) hx hb dX4_take_39 rfl hl (by decide) rfl (fun ls hl => ?_)
      refine lv_aload_n hx hb dX4_take_40 rfl (lv_at hl 2 rfl) ?_
      refine lv_bipush (v := 36) hx hb dX4_take_41 (by decide) ?_
      refine lv_bipush (v := 37) hx hb dX4_take_43 (by decide) ?_
      refine lv_iconst (v := 4) hx hb dX4_take_45 (by decide) ?_
      refine lv_iload_n hx hb dX4_take_46 rfl (lv_at hl 1 rfl) ?_
      obtain ⟨hs10, hF⟩ := hF
      refine kcV (ci := 4) (q0 := 0) (As := [.int 36, .int 37, .int 4, .int v1]) (rest := []) E.1 (cx4_drops E am (M5.1 4 0) (M5.1 4 1) (M5.1 4 2) M5.2 (M5.1 0) 36 37 4 v1 hs10) hX (cwV 4 hts gX4_take_X4_drops rfl rfl rfl hdX4_drops ⟨Nat.le_of_ble_eq_true rfl, Nat.le_of_ble_eq_true rfl⟩) hKs hK hP hD hS hA _ _ (md_mn cI am M5) (md_mn' cI am M5 _) rfl rfl rfl rfl hl.1 (Nat.le_of_ble_eq_true rfl) dX4_take_47 ⟨Nat.zero_le _, Nat.zero_le _⟩ (fun H locs hP hD hS => ?_)
      have hP : va_P D vwCl (mdW cI am (va_up M5.1 0 (fx4_drops (M5.1 0) 36 37 4 v1), M5.2)) H := hP
      have hD : va_D A (mdW cI am (va_up M5.1 0 (fx4_drops (M5.1 0) 36 37 4 v1), M5.2)) := hD
      generalize eM7 : fx4_drops (M5.1 0) 36 37 4 v1 = M7 at hR hF hP hD
      replace hR := bnd_e hR
      replace hF := bnd_p hF
      refine lv_aload_n hx hb dX4_take_50 rfl (lv_at hl 2 rfl) ?_
      refine lv_bipush (v := 7) hx hb dX4_take_51 (by decide) ?_
      have hs9 := hF
      refine kcV (ci := 4) (q0 := 0) (As := [.int 7]) (rest := []) E.1 (cx4_counts E am (M5.1 4 0) (M5.1 4 1) (M5.1 4 2) M5.2 M7 7 hs9) hX (cwV 1 hts gX4_take_X4_counts rfl rfl rfl hdX4_counts ⟨Nat.le_of_ble_eq_true rfl, Nat.le_of_ble_eq_true rfl⟩) hKs hK hP hD hS hA _ _ (md_mn cI am (va_up M5.1 0 M7, M5.2)) (md_mn' cI am (va_up M5.1 0 M7, M5.2) _) rfl rfl rfl rfl hl.1 (Nat.le_of_ble_eq_true rfl) dX4_take_53 ⟨Nat.zero_le _, Nat.zero_le _⟩ (fun H locs hP hD hS => ?_)
      have hP : va_P D vwCl (mdW cI am (va_up (va_up M5.1 0 M7) 0 (fx4_counts M7 7), M5.2)) H := hP
      have hD : va_D A (mdW cI am (va_up (va_up M5.1 0 M7) 0 (fx4_counts M7 7), M5.2)) := hD
      generalize eM8 : fx4_counts M7 7 = M8 at hR hP hD
      replace hR := bnd_e hR
      refine lv_iload_n hx hb dX4_take_56 rfl (lv_at hl 0 rfl) ?_
      subst hR
      exact krI hx hb hr hlk hP hD hS dX4_take_57 rfl rfl
    · rw [if_neg c4] at hR hF
      refine lv_iconst (v := 0) hx hb dX4_take_23 (by decide) ?_
      subst hR
      exact krI hx hb hr hlk hP hD hS dX4_take_24 rfl rfl

theorem hdX4_run : yX4_run.cls = RX4 ∧ yX4_run.cls ≠ "java/lang/invoke/MethodHandle" ∧ yX4_run.cls ≠ "java/lang/invoke/VarHandle" ∧ (parseMethodDescriptor yX4_run.desc).map (fun d => d.parameters.length) = some 1 := by decide +kernel
def fx4_run (M : Md) (x1 : Int32) : Int32 × (Md) := (if (fx4_within x1 0 1000) = 0 then (bnd (fx4_refused M 1) (fun u2 => (if u2.1 = 0 then (bnd (fx4_saves u2.2) (fun M4 => (bnd (fx4_runs (M4.1 0) x1) (fun u5 => (u5.1, (va_up M4.1 0 u5.2, M4.2)))))) else (0, u2.2)))) else (bnd (fx4_refused M 0) (fun u8 => (if u8.1 = 0 then (bnd (fx4_saves u8.2) (fun M10 => (bnd (fx4_runs (M10.1 0) x1) (fun u11 => (u11.1, (va_up M10.1 0 u11.2, M10.2)))))) else (0, u8.2)))))
def sx4_run (M : Md) (x1 : Int32) : Prop := (if (fx4_within x1 0 1000) = 0 then (bnd (fx4_refused M 1) (fun u2 => (if u2.1 = 0 then (sx4_saves u2.2 ∧ (bnd (fx4_saves u2.2) (fun M4 => sx4_runs (M4.1 0) x1))) else True))) else (bnd (fx4_refused M 0) (fun u8 => (if u8.1 = 0 then (sx4_saves u8.2 ∧ (bnd (fx4_saves u8.2) (fun M10 => sx4_runs (M10.1 0) x1))) else True))))
set_option maxHeartbeats 4000000 in
set_option maxRecDepth 100000 in
theorem cx4_run {l : Launch} {D : va_G} {cI cB cS cJ : ClassId} {K : State → Prop} (E : kE D cI cB cS cJ K) (am : Nat → Nat) (M : Md) (x1 : Int32) (hF : sx4_run M x1) : kI l D K yX4_run wsX4_run 7 158 [.ref (am 0), .int x1] (mdW cI am M) (fx4_run M x1).1 (mdW cI am ((fx4_run M x1).2)) := by
  refine kI_of (own := RX4) (cc := cX4_run) (maxL := 2) (tys := kty cI cB cS cJ) (fun U h => (E.2 U h).1) (by decide) rfl rfl (Nat.le_of_ble_eq_true rfl) ?_
  intro p e s m below meth c A ls hx hb hr hml hts hown hlk hKs hK hP hD hA hS hl
  have hl : lv_has ls 2 [(0, .ref (am 0)), (1, .int x1)] := hl
  have hX : CallFix p m c cX4_run 2 s _ wsX4_run RX4 := ⟨hx, hb, hml, hown, hts⟩
  generalize hR : fx4_run M x1 = R
  rw [fx4_run] at hR
  rw [sx4_run] at hF
  refine lv_aload_n hx hb dX4_run_0 rfl (lv_at hl 0 rfl) ?_
  refine lv_iload_n hx hb dX4_run_1 rfl (lv_at hl 1 rfl) ?_
  refine lv_iconst (v := 0) hx hb dX4_run_2 (by decide) ?_
  refine lv_sipush (v := 1000) hx hb dX4_run_3 (by decide) ?_
  refine kcsI (As := [.int x1, .int 0, .int 1000]) (rest := [.ref (am 0)]) E.1 (cx4_within E x1 0 1000) hX (va_cwS 3 hts gX4_run_X4_within rfl rfl rfl hdX4_within.2 ⟨Nat.le_of_ble_eq_true rfl, Nat.le_of_ble_eq_true rfl⟩) hKs hP hD hS hA _ _ (kw_nil _) (kw_nil _).symm rfl rfl hl.1 (Nat.le_of_ble_eq_true rfl) dX4_run_6 ⟨Nat.zero_le _, Nat.zero_le _⟩ (fun H locs hP hD hS => ?_)
  refine lv_if_eq (tgt := 16) hx hb dX4_run_9 (by decide) (fun c1 => ?_) (fun c1 => ?_)
  · rw [if_pos c1] at hR hF
    refine lv_iconst (v := 1) hx hb dX4_run_16 (by decide) ?_
    refine kcI (ci := 4) (q0 := 0) (As := [.int 1]) (rest := []) E.1 (cx4_refused E am M 1) hX (cwV 1 hts gX4_run_X4_refused rfl rfl rfl hdX4_refused ⟨Nat.le_of_ble_eq_true rfl, Nat.le_of_ble_eq_true rfl⟩) hKs hK hP hD hS hA _ _ (kw_self _) (kw_self _).symm rfl rfl rfl rfl hl.1 (Nat.le_of_ble_eq_true rfl) dX4_run_17 ⟨Nat.zero_le _, Nat.zero_le _⟩ (fun H locs hP hD hS => ?_)
    have hP : va_P D vwCl (mdW cI am ((fx4_refused M 1).2)) H := hP
    have hD : va_D A (mdW cI am ((fx4_refused M 1).2)) := hD
    generalize eu2 : fx4_refused M 1 = u2 at hR hF hP hD ⊢
    replace hR := bnd_e hR
    replace hF := bnd_p hF
    refine lv_if_eq (tgt := 25) hx hb dX4_run_20 (by decide) (fun c3 => ?_) (fun c3 => ?_)
    · rw [if_pos c3] at hR hF
      refine lv_aload_n hx hb dX4_run_25 rfl (lv_at hl 0 rfl) ?_
      obtain ⟨hs7, hF⟩ := hF
      refine kcV (ci := 4) (q0 := 0) (As := []) (rest := []) E.1 (cx4_saves E am u2.2 hs7) hX (cwV 0 hts gX4_run_X4_saves rfl rfl rfl hdX4_saves ⟨Nat.le_of_ble_eq_true rfl, Nat.le_of_ble_eq_true rfl⟩) hKs hK hP hD hS hA _ _ (kw_self _) (kw_self _).symm rfl rfl rfl rfl hl.1 (Nat.le_of_ble_eq_true rfl) dX4_run_26 ⟨Nat.zero_le _, Nat.zero_le _⟩ (fun H locs hP hD hS => ?_)
      have hP : va_P D vwCl (mdW cI am (fx4_saves u2.2)) H := hP
      have hD : va_D A (mdW cI am (fx4_saves u2.2)) := hD
      generalize eM4 : fx4_saves u2.2 = M4 at hR hF hP hD
      replace hR := bnd_e hR
      replace hF := bnd_p hF
      refine lv_aload_n hx hb dX4_run_29 rfl (lv_at hl 0 rfl) ?_
      refine lv_iload_n hx hb dX4_run_30 rfl (lv_at hl 1 rfl) ?_
      have hs6 := hF
      refine kcI (ci := 4) (q0 := 0) (As := [.int x1]) (rest := []) E.1 (cx4_runs E am (M4.1 4 0) (M4.1 4 1) (M4.1 4 2) M4.2 (M4.1 0) x1 hs6) hX (cwV 1 hts gX4_run_X4_runs rfl rfl rfl hdX4_runs ⟨Nat.le_of_ble_eq_true rfl, Nat.le_of_ble_eq_true rfl⟩) hKs hK hP hD hS hA _ _ (md_mn cI am M4) (md_mn' cI am M4 _) rfl rfl rfl rfl hl.1 (Nat.le_of_ble_eq_true rfl) dX4_run_31 ⟨Nat.zero_le _, Nat.zero_le _⟩ (fun H locs hP hD hS => ?_)
      have hP : va_P D vwCl (mdW cI am (va_up M4.1 0 ((fx4_runs (M4.1 0) x1).2), M4.2)) H := hP
      have hD : va_D A (mdW cI am (va_up M4.1 0 ((fx4_runs (M4.1 0) x1).2), M4.2)) := hD
      generalize eu5 : fx4_runs (M4.1 0) x1 = u5 at hR hP hD ⊢
      replace hR := bnd_e hR
      subst hR
      exact krI hx hb hr hlk hP hD hS dX4_run_34 rfl rfl
    · rw [if_neg c3] at hR hF
      refine lv_iconst (v := 0) hx hb dX4_run_23 (by decide) ?_
      subst hR
      exact krI hx hb hr hlk hP hD hS dX4_run_24 rfl rfl
  · rw [if_neg c1] at hR hF
    refine lv_iconst (v := 0) hx hb dX4_run_12 (by decide) ?_
    refine lv_goto (tgt := 17) hx hb dX4_run_13 (by decide) ?_
    refine kcI (ci := 4) (q0 := 0) (As := [.int 0]) (rest := []) E.1 (cx4_refused E am M 0) hX (cwV 1 hts gX4_run_X4_refused rfl rfl rfl hdX4_refused ⟨Nat.le_of_ble_eq_true rfl, Nat.le_of_ble_eq_true rfl⟩) hKs hK hP hD hS hA _ _ (kw_self _) (kw_self _).symm rfl rfl rfl rfl hl.1 (Nat.le_of_ble_eq_true rfl) dX4_run_17 ⟨Nat.zero_le _, Nat.zero_le _⟩ (fun H locs hP hD hS => ?_)
    have hP : va_P D vwCl (mdW cI am ((fx4_refused M 0).2)) H := hP
    have hD : va_D A (mdW cI am ((fx4_refused M 0).2)) := hD
    generalize eu8 : fx4_refused M 0 = u8 at hR hF hP hD ⊢
    replace hR := bnd_e hR
    replace hF := bnd_p hF
    refine lv_if_eq (tgt := 25) hx hb dX4_run_20 (by decide) (fun c9 => ?_) (fun c9 => ?_)
    · rw [if_pos c9] at hR hF
      refine lv_aload_n hx hb dX4_run_25 rfl (lv_at hl 0 rfl) ?_
      obtain ⟨hs13, hF⟩ := hF
      refine kcV (ci := 4) (q0 := 0) (As := []) (rest := []) E.1 (cx4_saves E am u8.2 hs13) hX (cwV 0 hts gX4_run_X4_saves rfl rfl rfl hdX4_saves ⟨Nat.le_of_ble_eq_true rfl, Nat.le_of_ble_eq_true rfl⟩) hKs hK hP hD hS hA _ _ (kw_self _) (kw_self _).symm rfl rfl rfl rfl hl.1 (Nat.le_of_ble_eq_true rfl) dX4_run_26 ⟨Nat.zero_le _, Nat.zero_le _⟩ (fun H locs hP hD hS => ?_)
      have hP : va_P D vwCl (mdW cI am (fx4_saves u8.2)) H := hP
      have hD : va_D A (mdW cI am (fx4_saves u8.2)) := hD
      generalize eM10 : fx4_saves u8.2 = M10 at hR hF hP hD
      replace hR := bnd_e hR
      replace hF := bnd_p hF
      refine lv_aload_n hx hb dX4_run_29 rfl (lv_at hl 0 rfl) ?_
      refine lv_iload_n hx hb dX4_run_30 rfl (lv_at hl 1 rfl) ?_
      have hs12 := hF
      refine kcI (ci := 4) (q0 := 0) (As := [.int x1]) (rest := []) E.1 (cx4_runs E am (M10.1 4 0) (M10.1 4 1) (M10.1 4 2) M10.2 (M10.1 0) x1 hs12) hX (cwV 1 hts gX4_run_X4_runs rfl rfl rfl hdX4_runs ⟨Nat.le_of_ble_eq_true rfl, Nat.le_of_ble_eq_true rfl⟩) hKs hK hP hD hS hA _ _ (md_mn cI am M10) (md_mn' cI am M10 _) rfl rfl rfl rfl hl.1 (Nat.le_of_ble_eq_true rfl) dX4_run_31 ⟨Nat.zero_le _, Nat.zero_le _⟩ (fun H locs hP hD hS => ?_)
      have hP : va_P D vwCl (mdW cI am (va_up M10.1 0 ((fx4_runs (M10.1 0) x1).2), M10.2)) H := hP
      have hD : va_D A (mdW cI am (va_up M10.1 0 ((fx4_runs (M10.1 0) x1).2), M10.2)) := hD
      generalize eu11 : fx4_runs (M10.1 0) x1 = u11 at hR hP hD ⊢
      replace hR := bnd_e hR
      subst hR
      exact krI hx hb hr hlk hP hD hS dX4_run_34 rfl rfl
    · rw [if_neg c9] at hR hF
      refine lv_iconst (v := 0) hx hb dX4_run_23 (by decide) ?_
      subst hR
      exact krI hx hb hr hlk hP hD hS dX4_run_24 rfl rfl

theorem hdX4_status : yX4_status.cls = RX4 ∧ yX4_status.cls ≠ "java/lang/invoke/MethodHandle" ∧ yX4_status.cls ≠ "java/lang/invoke/VarHandle" ∧ (parseMethodDescriptor yX4_status.desc).map (fun d => d.parameters.length) = some 1 := by decide +kernel
def fx4_status (M : Md) (x1 : Int32) : Int32 × (Md) := (if (fx4_within x1 0 7) = 0 then (bnd (fx4_refused M 1) (fun u2 => (if u2.1 = 0 then (bnd (fx4_tellStatus (u2.2.1 0) x1) (fun v4 => (v4, u2.2))) else (0, u2.2)))) else (bnd (fx4_refused M 0) (fun u5 => (if u5.1 = 0 then (bnd (fx4_tellStatus (u5.2.1 0) x1) (fun v7 => (v7, u5.2))) else (0, u5.2)))))
set_option maxHeartbeats 4000000 in
set_option maxRecDepth 100000 in
theorem cx4_status {l : Launch} {D : va_G} {cI cB cS cJ : ClassId} {K : State → Prop} (E : kE D cI cB cS cJ K) (am : Nat → Nat) (M : Md) (x1 : Int32) : kI l D K yX4_status wsX4_status 1 22 [.ref (am 0), .int x1] (mdW cI am M) (fx4_status M x1).1 (mdW cI am ((fx4_status M x1).2)) := by
  refine kI_of (own := RX4) (cc := cX4_status) (maxL := 2) (tys := kty cI cB cS cJ) (fun U h => (E.2 U h).1) (by decide) rfl rfl (Nat.le_of_ble_eq_true rfl) ?_
  intro p e s m below meth c A ls hx hb hr hml hts hown hlk hKs hK hP hD hA hS hl
  have hl : lv_has ls 2 [(0, .ref (am 0)), (1, .int x1)] := hl
  have hX : CallFix p m c cX4_status 2 s _ wsX4_status RX4 := ⟨hx, hb, hml, hown, hts⟩
  generalize hR : fx4_status M x1 = R
  rw [fx4_status] at hR
  refine lv_aload_n hx hb dX4_status_0 rfl (lv_at hl 0 rfl) ?_
  refine lv_iload_n hx hb dX4_status_1 rfl (lv_at hl 1 rfl) ?_
  refine lv_iconst (v := 0) hx hb dX4_status_2 (by decide) ?_
  refine lv_bipush (v := 7) hx hb dX4_status_3 (by decide) ?_
  refine kcsI (As := [.int x1, .int 0, .int 7]) (rest := [.ref (am 0)]) E.1 (cx4_within E x1 0 7) hX (va_cwS 3 hts gX4_status_X4_within rfl rfl rfl hdX4_within.2 ⟨Nat.le_of_ble_eq_true rfl, Nat.le_of_ble_eq_true rfl⟩) hKs hP hD hS hA _ _ (kw_nil _) (kw_nil _).symm rfl rfl hl.1 (Nat.le_of_ble_eq_true rfl) dX4_status_5 ⟨Nat.zero_le _, Nat.zero_le _⟩ (fun H locs hP hD hS => ?_)
  refine lv_if_eq (tgt := 15) hx hb dX4_status_8 (by decide) (fun c1 => ?_) (fun c1 => ?_)
  · rw [if_pos c1] at hR
    refine lv_iconst (v := 1) hx hb dX4_status_15 (by decide) ?_
    refine kcI (ci := 4) (q0 := 0) (As := [.int 1]) (rest := []) E.1 (cx4_refused E am M 1) hX (cwV 1 hts gX4_status_X4_refused rfl rfl rfl hdX4_refused ⟨Nat.le_of_ble_eq_true rfl, Nat.le_of_ble_eq_true rfl⟩) hKs hK hP hD hS hA _ _ (kw_self _) (kw_self _).symm rfl rfl rfl rfl hl.1 (Nat.le_of_ble_eq_true rfl) dX4_status_16 ⟨Nat.zero_le _, Nat.zero_le _⟩ (fun H locs hP hD hS => ?_)
    have hP : va_P D vwCl (mdW cI am ((fx4_refused M 1).2)) H := hP
    have hD : va_D A (mdW cI am ((fx4_refused M 1).2)) := hD
    generalize eu2 : fx4_refused M 1 = u2 at hR hP hD ⊢
    replace hR := bnd_e hR
    refine lv_if_eq (tgt := 26) hx hb dX4_status_19 (by decide) (fun c3 => ?_) (fun c3 => ?_)
    · rw [if_pos c3] at hR
      refine lv_aload_n hx hb dX4_status_26 rfl (lv_at hl 0 rfl) ?_
      refine lv_iload_n hx hb dX4_status_27 rfl (lv_at hl 1 rfl) ?_
      refine kcI (ci := 4) (q0 := 0) (As := [.int x1]) (rest := []) E.1 (cx4_tellStatus E am (u2.2.1 4 0) (u2.2.1 4 1) (u2.2.1 4 2) u2.2.2 (u2.2.1 0) x1) hX (cwV 1 hts gX4_status_X4_tellStatus rfl rfl rfl hdX4_tellStatus ⟨Nat.le_of_ble_eq_true rfl, Nat.le_of_ble_eq_true rfl⟩) hKs hK hP hD hS hA _ _ (md_mn cI am u2.2) (md_mn cI am u2.2).symm rfl rfl rfl rfl hl.1 (Nat.le_of_ble_eq_true rfl) dX4_status_28 ⟨Nat.zero_le _, Nat.zero_le _⟩ (fun H locs hP hD hS => ?_)
      generalize ev4 : fx4_tellStatus (u2.2.1 0) x1 = v4 at hR ⊢
      replace hR := bnd_e hR
      subst hR
      exact krI hx hb hr hlk hP hD hS dX4_status_31 rfl rfl
    · rw [if_neg c3] at hR
      refine lv_iconst (v := 0) hx hb dX4_status_22 (by decide) ?_
      refine lv_goto (tgt := 31) hx hb dX4_status_23 (by decide) ?_
      subst hR
      exact krI hx hb hr hlk hP hD hS dX4_status_31 rfl rfl
  · rw [if_neg c1] at hR
    refine lv_iconst (v := 0) hx hb dX4_status_11 (by decide) ?_
    refine lv_goto (tgt := 16) hx hb dX4_status_12 (by decide) ?_
    refine kcI (ci := 4) (q0 := 0) (As := [.int 0]) (rest := []) E.1 (cx4_refused E am M 0) hX (cwV 1 hts gX4_status_X4_refused rfl rfl rfl hdX4_refused ⟨Nat.le_of_ble_eq_true rfl, Nat.le_of_ble_eq_true rfl⟩) hKs hK hP hD hS hA _ _ (kw_self _) (kw_self _).symm rfl rfl rfl rfl hl.1 (Nat.le_of_ble_eq_true rfl) dX4_status_16 ⟨Nat.zero_le _, Nat.zero_le _⟩ (fun H locs hP hD hS => ?_)
    have hP : va_P D vwCl (mdW cI am ((fx4_refused M 0).2)) H := hP
    have hD : va_D A (mdW cI am ((fx4_refused M 0).2)) := hD
    generalize eu5 : fx4_refused M 0 = u5 at hR hP hD ⊢
    replace hR := bnd_e hR
    refine lv_if_eq (tgt := 26) hx hb dX4_status_19 (by decide) (fun c6 => ?_) (fun c6 => ?_)
    · rw [if_pos c6] at hR
      refine lv_aload_n hx hb dX4_status_26 rfl (lv_at hl 0 rfl) ?_
      refine lv_iload_n hx hb dX4_status_27 rfl (lv_at hl 1 rfl) ?_
      refine kcI (ci := 4) (q0 := 0) (As := [.int x1]) (rest := []) E.1 (cx4_tellStatus E am (u5.2.1 4 0) (u5.2.1 4 1) (u5.2.1 4 2) u5.2.2 (u5.2.1 0) x1) hX (cwV 1 hts gX4_status_X4_tellStatus rfl rfl rfl hdX4_tellStatus ⟨Nat.le_of_ble_eq_true rfl, Nat.le_of_ble_eq_true rfl⟩) hKs hK hP hD hS hA _ _ (md_mn cI am u5.2) (md_mn cI am u5.2).symm rfl rfl rfl rfl hl.1 (Nat.le_of_ble_eq_true rfl) dX4_status_28 ⟨Nat.zero_le _, Nat.zero_le _⟩ (fun H locs hP hD hS => ?_)
      generalize ev7 : fx4_tellStatus (u5.2.1 0) x1 = v7 at hR ⊢
      replace hR := bnd_e hR
      subst hR
      exact krI hx hb hr hlk hP hD hS dX4_status_31 rfl rfl
    · rw [if_neg c6] at hR
      refine lv_iconst (v := 0) hx hb dX4_status_22 (by decide) ?_
      refine lv_goto (tgt := 31) hx hb dX4_status_23 (by decide) ?_
      subst hR
      exact krI hx hb hr hlk hP hD hS dX4_status_31 rfl rfl

theorem hdX4_item : yX4_item.cls = RX4 ∧ yX4_item.cls ≠ "java/lang/invoke/MethodHandle" ∧ yX4_item.cls ≠ "java/lang/invoke/VarHandle" ∧ (parseMethodDescriptor yX4_item.desc).map (fun d => d.parameters.length) = some 2 := by decide +kernel
def fx4_item (M : Md) (x1 : Int32) (x2 : Int32) : Int32 × (Md) := (bnd (fx4_itemOf (M.1 0) x1) (fun v1 => (if v1 = (-1) then (bnd (fx4_refused M 1) (fun u3 => (if u3.1 = 0 then ((u3.2.1 0) (fx4_thing v1 (1 + x2)).toNatClampNeg, u3.2) else (0, u3.2)))) else (if (fx4_within x2 0 2) = 0 then (bnd (fx4_refused M 2) (fun u7 => (if u7.1 = 0 then ((u7.2.1 0) (fx4_thing v1 (1 + x2)).toNatClampNeg, u7.2) else (0, u7.2)))) else (bnd (fx4_refused M 0) (fun u10 => (if u10.1 = 0 then ((u10.2.1 0) (fx4_thing v1 (1 + x2)).toNatClampNeg, u10.2) else (0, u10.2))))))))
def sx4_item (M : Md) (x1 : Int32) (x2 : Int32) : Prop := (sx4_itemOf (M.1 0) x1 ∧ (bnd (fx4_itemOf (M.1 0) x1) (fun v1 => (if v1 = (-1) then (bnd (fx4_refused M 1) (fun u3 => (if u3.1 = 0 then vp_in (fx4_thing v1 (1 + x2)) 1203 else True))) else (if (fx4_within x2 0 2) = 0 then (bnd (fx4_refused M 2) (fun u7 => (if u7.1 = 0 then vp_in (fx4_thing v1 (1 + x2)) 1203 else True))) else (bnd (fx4_refused M 0) (fun u10 => (if u10.1 = 0 then vp_in (fx4_thing v1 (1 + x2)) 1203 else True))))))))
set_option maxHeartbeats 4000000 in
set_option maxRecDepth 100000 in
theorem cx4_item {l : Launch} {D : va_G} {cI cB cS cJ : ClassId} {K : State → Prop} (E : kE D cI cB cS cJ K) (am : Nat → Nat) (M : Md) (x1 : Int32) (x2 : Int32) (hF : sx4_item M x1 x2) : kI l D K yX4_item wsX4_item 2 44 [.ref (am 0), .int x1, .int x2] (mdW cI am M) (fx4_item M x1 x2).1 (mdW cI am ((fx4_item M x1 x2).2)) := by
  refine kI_of (own := RX4) (cc := cX4_item) (maxL := 4) (tys := kty cI cB cS cJ) (fun U h => (E.2 U h).1) (by decide) rfl rfl (Nat.le_of_ble_eq_true rfl) ?_
  intro p e s m below meth c A ls hx hb hr hml hts hown hlk hKs hK hP hD hA hS hl
  have hl : lv_has ls 4 [(0, .ref (am 0)), (1, .int x1), (2, .int x2)] := hl
  have hX : CallFix p m c cX4_item 4 s _ wsX4_item RX4 := ⟨hx, hb, hml, hown, hts⟩
  have hinX4 : ∀ w ∈ wsX40, w ∈ wsX4_item := fun w h => List.mem_cons_of_mem _ (List.mem_append_right _ h)
  have q1 := hts (.fieldLink RX4 7 "LabelStationModel" "now" "[I") (List.mem_of_getElem? (i := 1) rfl)
  generalize hR : fx4_item M x1 x2 = R
  rw [fx4_item] at hR
  rw [sx4_item] at hF
  refine lv_aload_n hx hb dX4_item_0 rfl (lv_at hl 0 rfl) ?_
  refine lv_iload_n hx hb dX4_item_1 rfl (lv_at hl 1 rfl) ?_
  obtain ⟨hs13, hF⟩ := hF
  refine kcI (ci := 4) (q0 := 0) (As := [.int x1]) (rest := []) E.1 (cx4_itemOf E am (M.1 4 0) (M.1 4 1) (M.1 4 2) M.2 (M.1 0) x1 hs13) hX (cwV 1 hts gX4_item_X4_itemOf rfl rfl rfl hdX4_itemOf ⟨Nat.le_of_ble_eq_true rfl, Nat.le_of_ble_eq_true rfl⟩) hKs hK hP hD hS hA _ _ (md_mn cI am M) (md_mn cI am M).symm rfl rfl rfl rfl hl.1 (Nat.le_of_ble_eq_true rfl) dX4_item_2 ⟨Nat.zero_le _, Nat.zero_le _⟩ (fun H locs hP hD hS => ?_)
  generalize ev1 : fx4_itemOf (M.1 0) x1 = v1 at hR hF ⊢
  replace hR := bnd_e hR
  replace hF := bnd_p hF
  refine lv_istore_n (lv' := [(3, .int v1), (0, .ref (am 0)), (1, .int x1), (2, .int x2)]) hx hb dX4_item_5 rfl hl (by decide) rfl (fun ls hl => ?_)
  refine lv_aload_n hx hb dX4_item_6 rfl (lv_at hl 1 rfl) ?_
  refine lv_iload_n hx hb dX4_item_7 rfl (lv_at hl 0 rfl) ?_
  refine lv_iconst (v := (-1)) hx hb dX4_item_8 (by decide) ?_
  refine lv_icmp_ne (tgt := 16) hx hb dX4_item_9 (by decide) (fun c2 => ?_) (fun c2 => ?_)
  · rw [if_neg c2] at hR hF
    refine lv_iload_n hx hb dX4_item_16 rfl (lv_at hl 3 rfl) ?_
    refine lv_iconst (v := 0) hx hb dX4_item_17 (by decide) ?_
    refine lv_iconst (v := 2) hx hb dX4_item_18 (by decide) ?_
    refine kcsI (As := [.int x2, .int 0, .int 2]) (rest := [.ref (am 0)]) E.1 (cx4_within E x2 0 2) hX (va_cwS 3 hts gX4_item_X4_within rfl rfl rfl hdX4_within.2 ⟨Nat.le_of_ble_eq_true rfl, Nat.le_of_ble_eq_true rfl⟩) hKs hP hD hS hA _ _ (kw_nil _) (kw_nil _).symm rfl rfl hl.1 (Nat.le_of_ble_eq_true rfl) dX4_item_19 ⟨Nat.zero_le _, Nat.zero_le _⟩ (fun H locs hP hD hS => ?_)
    refine lv_if_eq (tgt := 29) hx hb dX4_item_22 (by decide) (fun c6 => ?_) (fun c6 => ?_)
    · rw [if_pos c6] at hR hF
      refine lv_iconst (v := 2) hx hb dX4_item_29 (by decide) ?_
      refine kcI (ci := 4) (q0 := 0) (As := [.int 2]) (rest := []) E.1 (cx4_refused E am M 2) hX (cwV 1 hts gX4_item_X4_refused rfl rfl rfl hdX4_refused ⟨Nat.le_of_ble_eq_true rfl, Nat.le_of_ble_eq_true rfl⟩) hKs hK hP hD hS hA _ _ (kw_self _) (kw_self _).symm rfl rfl rfl rfl hl.1 (Nat.le_of_ble_eq_true rfl) dX4_item_30 ⟨Nat.zero_le _, Nat.zero_le _⟩ (fun H locs hP hD hS => ?_)
      have hP : va_P D vwCl (mdW cI am ((fx4_refused M 2).2)) H := hP
      have hD : va_D A (mdW cI am ((fx4_refused M 2).2)) := hD
      generalize eu7 : fx4_refused M 2 = u7 at hR hF hP hD ⊢
      replace hR := bnd_e hR
      replace hF := bnd_p hF
      refine lv_if_eq (tgt := 40) hx hb dX4_item_33 (by decide) (fun c8 => ?_) (fun c8 => ?_)
      · rw [if_pos c8] at hR hF
        refine lv_aload_n hx hb dX4_item_40 rfl (lv_at hl 1 rfl) ?_
        refine va_get (D := D) (ci := 4) (v := .ref (am 1)) (C := RX4) (T := TX4) (N := 8) hx hb hts hinX4 hown hK hP 0 rfl rfl 0 (by decide) q1 (fun _ h9 => h9) rfl dX4_item_41 ?_
        refine lv_iload_n hx hb dX4_item_44 rfl (lv_at hl 0 rfl) ?_
        refine lv_iconst (v := 1) hx hb dX4_item_45 (by decide) ?_
        refine lv_iload_n hx hb dX4_item_46 rfl (lv_at hl 3 rfl) ?_
        refine lv_iadd hx hb dX4_item_47 ?_
        refine kcsI (As := [.int v1, .int (1 + x2)]) (rest := [.ref (am 1)]) E.1 (cx4_thing E v1 (1 + x2)) hX (va_cwS 2 hts gX4_item_X4_thing rfl rfl rfl hdX4_thing.2 ⟨Nat.le_of_ble_eq_true rfl, Nat.le_of_ble_eq_true rfl⟩) hKs hP hD hS hA _ _ (kw_nil _) (kw_nil _).symm rfl rfl hl.1 (Nat.le_of_ble_eq_true rfl) dX4_item_48 ⟨Nat.zero_le _, Nat.zero_le _⟩ (fun H locs hP hD hS => ?_)
        have hi9 := hF
        refine va_iald hx hb hK hP 1 0 rfl rfl hi9 dX4_item_51 ?_
        subst hR
        exact krI hx hb hr hlk hP hD hS dX4_item_52 rfl rfl
      · rw [if_neg c8] at hR hF
        refine lv_iconst (v := 0) hx hb dX4_item_36 (by decide) ?_
        refine lv_goto (tgt := 52) hx hb dX4_item_37 (by decide) ?_
        subst hR
        exact krI hx hb hr hlk hP hD hS dX4_item_52 rfl rfl
    · rw [if_neg c6] at hR hF
      refine lv_iconst (v := 0) hx hb dX4_item_25 (by decide) ?_
      refine lv_goto (tgt := 30) hx hb dX4_item_26 (by decide) ?_
      refine kcI (ci := 4) (q0 := 0) (As := [.int 0]) (rest := []) E.1 (cx4_refused E am M 0) hX (cwV 1 hts gX4_item_X4_refused rfl rfl rfl hdX4_refused ⟨Nat.le_of_ble_eq_true rfl, Nat.le_of_ble_eq_true rfl⟩) hKs hK hP hD hS hA _ _ (kw_self _) (kw_self _).symm rfl rfl rfl rfl hl.1 (Nat.le_of_ble_eq_true rfl) dX4_item_30 ⟨Nat.zero_le _, Nat.zero_le _⟩ (fun H locs hP hD hS => ?_)
      have hP : va_P D vwCl (mdW cI am ((fx4_refused M 0).2)) H := hP
      have hD : va_D A (mdW cI am ((fx4_refused M 0).2)) := hD
      generalize eu10 : fx4_refused M 0 = u10 at hR hF hP hD ⊢
      replace hR := bnd_e hR
      replace hF := bnd_p hF
      refine lv_if_eq (tgt := 40) hx hb dX4_item_33 (by decide) (fun c11 => ?_) (fun c11 => ?_)
      · rw [if_pos c11] at hR hF
        refine lv_aload_n hx hb dX4_item_40 rfl (lv_at hl 1 rfl) ?_
        refine va_get (D := D) (ci := 4) (v := .ref (am 1)) (C := RX4) (T := TX4) (N := 8) hx hb hts hinX4 hown hK hP 0 rfl rfl 0 (by decide) q1 (fun _ h9 => h9) rfl dX4_item_41 ?_
        refine lv_iload_n hx hb dX4_item_44 rfl (lv_at hl 0 rfl) ?_
        refine lv_iconst (v := 1) hx hb dX4_item_45 (by decide) ?_
        refine lv_iload_n hx hb dX4_item_46 rfl (lv_at hl 3 rfl) ?_
        refine lv_iadd hx hb dX4_item_47 ?_
        refine kcsI (As := [.int v1, .int (1 + x2)]) (rest := [.ref (am 1)]) E.1 (cx4_thing E v1 (1 + x2)) hX (va_cwS 2 hts gX4_item_X4_thing rfl rfl rfl hdX4_thing.2 ⟨Nat.le_of_ble_eq_true rfl, Nat.le_of_ble_eq_true rfl⟩) hKs hP hD hS hA _ _ (kw_nil _) (kw_nil _).symm rfl rfl hl.1 (Nat.le_of_ble_eq_true rfl) dX4_item_48 ⟨Nat.zero_le _, Nat.zero_le _⟩ (fun H locs hP hD hS => ?_)
        have hi12 := hF
        refine va_iald hx hb hK hP 1 0 rfl rfl hi12 dX4_item_51 ?_
        subst hR
        exact krI hx hb hr hlk hP hD hS dX4_item_52 rfl rfl
      · rw [if_neg c11] at hR hF
        refine lv_iconst (v := 0) hx hb dX4_item_36 (by decide) ?_
        refine lv_goto (tgt := 52) hx hb dX4_item_37 (by decide) ?_
        subst hR
        exact krI hx hb hr hlk hP hD hS dX4_item_52 rfl rfl
  · rw [if_pos c2] at hR hF
    refine lv_iconst (v := 1) hx hb dX4_item_12 (by decide) ?_
    refine lv_goto (tgt := 30) hx hb dX4_item_13 (by decide) ?_
    refine kcI (ci := 4) (q0 := 0) (As := [.int 1]) (rest := []) E.1 (cx4_refused E am M 1) hX (cwV 1 hts gX4_item_X4_refused rfl rfl rfl hdX4_refused ⟨Nat.le_of_ble_eq_true rfl, Nat.le_of_ble_eq_true rfl⟩) hKs hK hP hD hS hA _ _ (kw_self _) (kw_self _).symm rfl rfl rfl rfl hl.1 (Nat.le_of_ble_eq_true rfl) dX4_item_30 ⟨Nat.zero_le _, Nat.zero_le _⟩ (fun H locs hP hD hS => ?_)
    have hP : va_P D vwCl (mdW cI am ((fx4_refused M 1).2)) H := hP
    have hD : va_D A (mdW cI am ((fx4_refused M 1).2)) := hD
    generalize eu3 : fx4_refused M 1 = u3 at hR hF hP hD ⊢
    replace hR := bnd_e hR
    replace hF := bnd_p hF
    refine lv_if_eq (tgt := 40) hx hb dX4_item_33 (by decide) (fun c4 => ?_) (fun c4 => ?_)
    · rw [if_pos c4] at hR hF
      refine lv_aload_n hx hb dX4_item_40 rfl (lv_at hl 1 rfl) ?_
      refine va_get (D := D) (ci := 4) (v := .ref (am 1)) (C := RX4) (T := TX4) (N := 8) hx hb hts hinX4 hown hK hP 0 rfl rfl 0 (by decide) q1 (fun _ h9 => h9) rfl dX4_item_41 ?_
      refine lv_iload_n hx hb dX4_item_44 rfl (lv_at hl 0 rfl) ?_
      refine lv_iconst (v := 1) hx hb dX4_item_45 (by decide) ?_
      refine lv_iload_n hx hb dX4_item_46 rfl (lv_at hl 3 rfl) ?_
      refine lv_iadd hx hb dX4_item_47 ?_
      refine kcsI (As := [.int v1, .int (1 + x2)]) (rest := [.ref (am 1)]) E.1 (cx4_thing E v1 (1 + x2)) hX (va_cwS 2 hts gX4_item_X4_thing rfl rfl rfl hdX4_thing.2 ⟨Nat.le_of_ble_eq_true rfl, Nat.le_of_ble_eq_true rfl⟩) hKs hP hD hS hA _ _ (kw_nil _) (kw_nil _).symm rfl rfl hl.1 (Nat.le_of_ble_eq_true rfl) dX4_item_48 ⟨Nat.zero_le _, Nat.zero_le _⟩ (fun H locs hP hD hS => ?_)
      have hi5 := hF
      refine va_iald hx hb hK hP 1 0 rfl rfl hi5 dX4_item_51 ?_
      subst hR
      exact krI hx hb hr hlk hP hD hS dX4_item_52 rfl rfl
    · rw [if_neg c4] at hR hF
      refine lv_iconst (v := 0) hx hb dX4_item_36 (by decide) ?_
      refine lv_goto (tgt := 52) hx hb dX4_item_37 (by decide) ?_
      subst hR
      exact krI hx hb hr hlk hP hD hS dX4_item_52 rfl rfl

theorem hdX4_record : yX4_record.cls = RX4 ∧ yX4_record.cls ≠ "java/lang/invoke/MethodHandle" ∧ yX4_record.cls ≠ "java/lang/invoke/VarHandle" ∧ (parseMethodDescriptor yX4_record.desc).map (fun d => d.parameters.length) = some 2 := by decide +kernel
def fx4_record (M : Md) (x1 : Int32) (x2 : Int32) : Int32 × (Md) := (bnd (fx4_recordOf (M.1 0) x1) (fun v1 => (if v1 = (-1) then (bnd (fx4_refused M 1) (fun u3 => (if u3.1 = 0 then ((u3.2.1 0) (fx4_entry v1 (1 + x2)).toNatClampNeg, u3.2) else (0, u3.2)))) else (if (fx4_within x2 0 4) = 0 then (bnd (fx4_refused M 2) (fun u7 => (if u7.1 = 0 then ((u7.2.1 0) (fx4_entry v1 (1 + x2)).toNatClampNeg, u7.2) else (0, u7.2)))) else (bnd (fx4_refused M 0) (fun u10 => (if u10.1 = 0 then ((u10.2.1 0) (fx4_entry v1 (1 + x2)).toNatClampNeg, u10.2) else (0, u10.2))))))))
def sx4_record (M : Md) (x1 : Int32) (x2 : Int32) : Prop := (sx4_recordOf (M.1 0) x1 ∧ (bnd (fx4_recordOf (M.1 0) x1) (fun v1 => (if v1 = (-1) then (bnd (fx4_refused M 1) (fun u3 => (if u3.1 = 0 then vp_in (fx4_entry v1 (1 + x2)) 1203 else True))) else (if (fx4_within x2 0 4) = 0 then (bnd (fx4_refused M 2) (fun u7 => (if u7.1 = 0 then vp_in (fx4_entry v1 (1 + x2)) 1203 else True))) else (bnd (fx4_refused M 0) (fun u10 => (if u10.1 = 0 then vp_in (fx4_entry v1 (1 + x2)) 1203 else True))))))))
set_option maxHeartbeats 4000000 in
set_option maxRecDepth 100000 in
theorem cx4_record {l : Launch} {D : va_G} {cI cB cS cJ : ClassId} {K : State → Prop} (E : kE D cI cB cS cJ K) (am : Nat → Nat) (M : Md) (x1 : Int32) (x2 : Int32) (hF : sx4_record M x1 x2) : kI l D K yX4_record wsX4_record 2 44 [.ref (am 0), .int x1, .int x2] (mdW cI am M) (fx4_record M x1 x2).1 (mdW cI am ((fx4_record M x1 x2).2)) := by
  refine kI_of (own := RX4) (cc := cX4_record) (maxL := 4) (tys := kty cI cB cS cJ) (fun U h => (E.2 U h).1) (by decide) rfl rfl (Nat.le_of_ble_eq_true rfl) ?_
  intro p e s m below meth c A ls hx hb hr hml hts hown hlk hKs hK hP hD hA hS hl
  have hl : lv_has ls 4 [(0, .ref (am 0)), (1, .int x1), (2, .int x2)] := hl
  have hX : CallFix p m c cX4_record 4 s _ wsX4_record RX4 := ⟨hx, hb, hml, hown, hts⟩
  have hinX4 : ∀ w ∈ wsX40, w ∈ wsX4_record := fun w h => List.mem_cons_of_mem _ (List.mem_append_right _ h)
  have q1 := hts (.fieldLink RX4 7 "LabelStationModel" "now" "[I") (List.mem_of_getElem? (i := 1) rfl)
  generalize hR : fx4_record M x1 x2 = R
  rw [fx4_record] at hR
  rw [sx4_record] at hF
  refine lv_aload_n hx hb dX4_record_0 rfl (lv_at hl 0 rfl) ?_
  refine lv_iload_n hx hb dX4_record_1 rfl (lv_at hl 1 rfl) ?_
  obtain ⟨hs13, hF⟩ := hF
  refine kcI (ci := 4) (q0 := 0) (As := [.int x1]) (rest := []) E.1 (cx4_recordOf E am (M.1 4 0) (M.1 4 1) (M.1 4 2) M.2 (M.1 0) x1 hs13) hX (cwV 1 hts gX4_record_X4_recordOf rfl rfl rfl hdX4_recordOf ⟨Nat.le_of_ble_eq_true rfl, Nat.le_of_ble_eq_true rfl⟩) hKs hK hP hD hS hA _ _ (md_mn cI am M) (md_mn cI am M).symm rfl rfl rfl rfl hl.1 (Nat.le_of_ble_eq_true rfl) dX4_record_2 ⟨Nat.zero_le _, Nat.zero_le _⟩ (fun H locs hP hD hS => ?_)
  generalize ev1 : fx4_recordOf (M.1 0) x1 = v1 at hR hF ⊢
  replace hR := bnd_e hR
  replace hF := bnd_p hF
  refine lv_istore_n (lv' := [(3, .int v1), (0, .ref (am 0)), (1, .int x1), (2, .int x2)]) hx hb dX4_record_5 rfl hl (by decide) rfl (fun ls hl => ?_)
  refine lv_aload_n hx hb dX4_record_6 rfl (lv_at hl 1 rfl) ?_
  refine lv_iload_n hx hb dX4_record_7 rfl (lv_at hl 0 rfl) ?_
  refine lv_iconst (v := (-1)) hx hb dX4_record_8 (by decide) ?_
  refine lv_icmp_ne (tgt := 16) hx hb dX4_record_9 (by decide) (fun c2 => ?_) (fun c2 => ?_)
  · rw [if_neg c2] at hR hF
    refine lv_iload_n hx hb dX4_record_16 rfl (lv_at hl 3 rfl) ?_
    refine lv_iconst (v := 0) hx hb dX4_record_17 (by decide) ?_
    refine lv_iconst (v := 4) hx hb dX4_record_18 (by decide) ?_
    refine kcsI (As := [.int x2, .int 0, .int 4]) (rest := [.ref (am 0)]) E.1 (cx4_within E x2 0 4) hX (va_cwS 3 hts gX4_record_X4_within rfl rfl rfl hdX4_within.2 ⟨Nat.le_of_ble_eq_true rfl, Nat.le_of_ble_eq_true rfl⟩) hKs hP hD hS hA _ _ (kw_nil _) (kw_nil _).symm rfl rfl hl.1 (Nat.le_of_ble_eq_true rfl) dX4_record_19 ⟨Nat.zero_le _, Nat.zero_le _⟩ (fun H locs hP hD hS => ?_)
    refine lv_if_eq (tgt := 29) hx hb dX4_record_22 (by decide) (fun c6 => ?_) (fun c6 => ?_)
    · rw [if_pos c6] at hR hF
      refine lv_iconst (v := 2) hx hb dX4_record_29 (by decide) ?_
      refine kcI (ci := 4) (q0 := 0) (As := [.int 2]) (rest := []) E.1 (cx4_refused E am M 2) hX (cwV 1 hts gX4_record_X4_refused rfl rfl rfl hdX4_refused ⟨Nat.le_of_ble_eq_true rfl, Nat.le_of_ble_eq_true rfl⟩) hKs hK hP hD hS hA _ _ (kw_self _) (kw_self _).symm rfl rfl rfl rfl hl.1 (Nat.le_of_ble_eq_true rfl) dX4_record_30 ⟨Nat.zero_le _, Nat.zero_le _⟩ (fun H locs hP hD hS => ?_)
      have hP : va_P D vwCl (mdW cI am ((fx4_refused M 2).2)) H := hP
      have hD : va_D A (mdW cI am ((fx4_refused M 2).2)) := hD
      generalize eu7 : fx4_refused M 2 = u7 at hR hF hP hD ⊢
      replace hR := bnd_e hR
      replace hF := bnd_p hF
      refine lv_if_eq (tgt := 40) hx hb dX4_record_33 (by decide) (fun c8 => ?_) (fun c8 => ?_)
      · rw [if_pos c8] at hR hF
        refine lv_aload_n hx hb dX4_record_40 rfl (lv_at hl 1 rfl) ?_
        refine va_get (D := D) (ci := 4) (v := .ref (am 1)) (C := RX4) (T := TX4) (N := 8) hx hb hts hinX4 hown hK hP 0 rfl rfl 0 (by decide) q1 (fun _ h9 => h9) rfl dX4_record_41 ?_
        refine lv_iload_n hx hb dX4_record_44 rfl (lv_at hl 0 rfl) ?_
        refine lv_iconst (v := 1) hx hb dX4_record_45 (by decide) ?_
        refine lv_iload_n hx hb dX4_record_46 rfl (lv_at hl 3 rfl) ?_
        refine lv_iadd hx hb dX4_record_47 ?_
        refine kcsI (As := [.int v1, .int (1 + x2)]) (rest := [.ref (am 1)]) E.1 (cx4_entry E v1 (1 + x2)) hX (va_cwS 2 hts gX4_record_X4_entry rfl rfl rfl hdX4_entry.2 ⟨Nat.le_of_ble_eq_true rfl, Nat.le_of_ble_eq_true rfl⟩) hKs hP hD hS hA _ _ (kw_nil _) (kw_nil _).symm rfl rfl hl.1 (Nat.le_of_ble_eq_true rfl) dX4_record_48 ⟨Nat.zero_le _, Nat.zero_le _⟩ (fun H locs hP hD hS => ?_)
        have hi9 := hF
        refine va_iald hx hb hK hP 1 0 rfl rfl hi9 dX4_record_51 ?_
        subst hR
        exact krI hx hb hr hlk hP hD hS dX4_record_52 rfl rfl
      · rw [if_neg c8] at hR hF
        refine lv_iconst (v := 0) hx hb dX4_record_36 (by decide) ?_
        refine lv_goto (tgt := 52) hx hb dX4_record_37 (by decide) ?_
        subst hR
        exact krI hx hb hr hlk hP hD hS dX4_record_52 rfl rfl
    · rw [if_neg c6] at hR hF
      refine lv_iconst (v := 0) hx hb dX4_record_25 (by decide) ?_
      refine lv_goto (tgt := 30) hx hb dX4_record_26 (by decide) ?_
      refine kcI (ci := 4) (q0 := 0) (As := [.int 0]) (rest := []) E.1 (cx4_refused E am M 0) hX (cwV 1 hts gX4_record_X4_refused rfl rfl rfl hdX4_refused ⟨Nat.le_of_ble_eq_true rfl, Nat.le_of_ble_eq_true rfl⟩) hKs hK hP hD hS hA _ _ (kw_self _) (kw_self _).symm rfl rfl rfl rfl hl.1 (Nat.le_of_ble_eq_true rfl) dX4_record_30 ⟨Nat.zero_le _, Nat.zero_le _⟩ (fun H locs hP hD hS => ?_)
      have hP : va_P D vwCl (mdW cI am ((fx4_refused M 0).2)) H := hP
      have hD : va_D A (mdW cI am ((fx4_refused M 0).2)) := hD
      generalize eu10 : fx4_refused M 0 = u10 at hR hF hP hD ⊢
      replace hR := bnd_e hR
      replace hF := bnd_p hF
      refine lv_if_eq (tgt := 40) hx hb dX4_record_33 (by decide) (fun c11 => ?_) (fun c11 => ?_)
      · rw [if_pos c11] at hR hF
        refine lv_aload_n hx hb dX4_record_40 rfl (lv_at hl 1 rfl) ?_
        refine va_get (D := D) (ci := 4) (v := .ref (am 1)) (C := RX4) (T := TX4) (N := 8) hx hb hts hinX4 hown hK hP 0 rfl rfl 0 (by decide) q1 (fun _ h9 => h9) rfl dX4_record_41 ?_
        refine lv_iload_n hx hb dX4_record_44 rfl (lv_at hl 0 rfl) ?_
        refine lv_iconst (v := 1) hx hb dX4_record_45 (by decide) ?_
        refine lv_iload_n hx hb dX4_record_46 rfl (lv_at hl 3 rfl) ?_
        refine lv_iadd hx hb dX4_record_47 ?_
        refine kcsI (As := [.int v1, .int (1 + x2)]) (rest := [.ref (am 1)]) E.1 (cx4_entry E v1 (1 + x2)) hX (va_cwS 2 hts gX4_record_X4_entry rfl rfl rfl hdX4_entry.2 ⟨Nat.le_of_ble_eq_true rfl, Nat.le_of_ble_eq_true rfl⟩) hKs hP hD hS hA _ _ (kw_nil _) (kw_nil _).symm rfl rfl hl.1 (Nat.le_of_ble_eq_true rfl) dX4_record_48 ⟨Nat.zero_le _, Nat.zero_le _⟩ (fun H locs hP hD hS => ?_)
        have hi12 := hF
        refine va_iald hx hb hK hP 1 0 rfl rfl hi12 dX4_record_51 ?_
        subst hR
        exact krI hx hb hr hlk hP hD hS dX4_record_52 rfl rfl
      · rw [if_neg c11] at hR hF
        refine lv_iconst (v := 0) hx hb dX4_record_36 (by decide) ?_
        refine lv_goto (tgt := 52) hx hb dX4_record_37 (by decide) ?_
        subst hR
        exact krI hx hb hr hlk hP hD hS dX4_record_52 rfl rfl
  · rw [if_pos c2] at hR hF
    refine lv_iconst (v := 1) hx hb dX4_record_12 (by decide) ?_
    refine lv_goto (tgt := 30) hx hb dX4_record_13 (by decide) ?_
    refine kcI (ci := 4) (q0 := 0) (As := [.int 1]) (rest := []) E.1 (cx4_refused E am M 1) hX (cwV 1 hts gX4_record_X4_refused rfl rfl rfl hdX4_refused ⟨Nat.le_of_ble_eq_true rfl, Nat.le_of_ble_eq_true rfl⟩) hKs hK hP hD hS hA _ _ (kw_self _) (kw_self _).symm rfl rfl rfl rfl hl.1 (Nat.le_of_ble_eq_true rfl) dX4_record_30 ⟨Nat.zero_le _, Nat.zero_le _⟩ (fun H locs hP hD hS => ?_)
    have hP : va_P D vwCl (mdW cI am ((fx4_refused M 1).2)) H := hP
    have hD : va_D A (mdW cI am ((fx4_refused M 1).2)) := hD
    generalize eu3 : fx4_refused M 1 = u3 at hR hF hP hD ⊢
    replace hR := bnd_e hR
    replace hF := bnd_p hF
    refine lv_if_eq (tgt := 40) hx hb dX4_record_33 (by decide) (fun c4 => ?_) (fun c4 => ?_)
    · rw [if_pos c4] at hR hF
      refine lv_aload_n hx hb dX4_record_40 rfl (lv_at hl 1 rfl) ?_
      refine va_get (D := D) (ci := 4) (v := .ref (am 1)) (C := RX4) (T := TX4) (N := 8) hx hb hts hinX4 hown hK hP 0 rfl rfl 0 (by decide) q1 (fun _ h9 => h9) rfl dX4_record_41 ?_
      refine lv_iload_n hx hb dX4_record_44 rfl (lv_at hl 0 rfl) ?_
      refine lv_iconst (v := 1) hx hb dX4_record_45 (by decide) ?_
      refine lv_iload_n hx hb dX4_record_46 rfl (lv_at hl 3 rfl) ?_
      refine lv_iadd hx hb dX4_record_47 ?_
      refine kcsI (As := [.int v1, .int (1 + x2)]) (rest := [.ref (am 1)]) E.1 (cx4_entry E v1 (1 + x2)) hX (va_cwS 2 hts gX4_record_X4_entry rfl rfl rfl hdX4_entry.2 ⟨Nat.le_of_ble_eq_true rfl, Nat.le_of_ble_eq_true rfl⟩) hKs hP hD hS hA _ _ (kw_nil _) (kw_nil _).symm rfl rfl hl.1 (Nat.le_of_ble_eq_true rfl) dX4_record_48 ⟨Nat.zero_le _, Nat.zero_le _⟩ (fun H locs hP hD hS => ?_)
      have hi5 := hF
      refine va_iald hx hb hK hP 1 0 rfl rfl hi5 dX4_record_51 ?_
      subst hR
      exact krI hx hb hr hlk hP hD hS dX4_record_52 rfl rfl
    · rw [if_neg c4] at hR hF
      refine lv_iconst (v := 0) hx hb dX4_record_36 (by decide) ?_
      refine lv_goto (tgt := 52) hx hb dX4_record_37 (by decide) ?_
      subst hR
      exact krI hx hb hr hlk hP hD hS dX4_record_52 rfl rfl

theorem hdX4_numberAt : yX4_numberAt.cls = RX4 ∧ yX4_numberAt.cls ≠ "java/lang/invoke/MethodHandle" ∧ yX4_numberAt.cls ≠ "java/lang/invoke/VarHandle" ∧ (parseMethodDescriptor yX4_numberAt.desc).map (fun d => d.parameters.length) = some 2 := by decide +kernel
def fx4_numberAt (M : Md) (x1 : Int32) (x2 : Int32) : Int32 × (Md) := (if x2 = 0 then (if (fx4_within x1 0 (((M.1 0) 36) - 1)) = 0 then (bnd (fx4_refused M 1) (fun u3 => (if u3.1 = 0 then ((u3.2.1 0) (fx4_thing x1 0).toNatClampNeg, u3.2) else (0, u3.2)))) else (bnd (fx4_refused M 0) (fun u6 => (if u6.1 = 0 then ((u6.2.1 0) (fx4_thing x1 0).toNatClampNeg, u6.2) else (0, u6.2))))) else (if (fx4_within x1 0 (((M.1 0) 117) - 1)) = 0 then (bnd (fx4_refused M 1) (fun u10 => (if u10.1 = 0 then ((u10.2.1 0) (fx4_entry x1 0).toNatClampNeg, u10.2) else (0, u10.2)))) else (bnd (fx4_refused M 0) (fun u13 => (if u13.1 = 0 then ((u13.2.1 0) (fx4_entry x1 0).toNatClampNeg, u13.2) else (0, u13.2))))))
def sx4_numberAt (M : Md) (x1 : Int32) (x2 : Int32) : Prop := (if x2 = 0 then (if (fx4_within x1 0 (((M.1 0) 36) - 1)) = 0 then (bnd (fx4_refused M 1) (fun u3 => (if u3.1 = 0 then vp_in (fx4_thing x1 0) 1203 else True))) else (bnd (fx4_refused M 0) (fun u6 => (if u6.1 = 0 then vp_in (fx4_thing x1 0) 1203 else True)))) else (if (fx4_within x1 0 (((M.1 0) 117) - 1)) = 0 then (bnd (fx4_refused M 1) (fun u10 => (if u10.1 = 0 then vp_in (fx4_entry x1 0) 1203 else True))) else (bnd (fx4_refused M 0) (fun u13 => (if u13.1 = 0 then vp_in (fx4_entry x1 0) 1203 else True)))))
set_option maxHeartbeats 4000000 in
set_option maxRecDepth 100000 in
theorem cx4_numberAt {l : Launch} {D : va_G} {cI cB cS cJ : ClassId} {K : State → Prop} (E : kE D cI cB cS cJ K) (am : Nat → Nat) (M : Md) (x1 : Int32) (x2 : Int32) (hF : sx4_numberAt M x1 x2) : kI l D K yX4_numberAt wsX4_numberAt 1 22 [.ref (am 0), .int x1, .int x2] (mdW cI am M) (fx4_numberAt M x1 x2).1 (mdW cI am ((fx4_numberAt M x1 x2).2)) := by
  refine kI_of (own := RX4) (cc := cX4_numberAt) (maxL := 4) (tys := kty cI cB cS cJ) (fun U h => (E.2 U h).1) (by decide) rfl rfl (Nat.le_of_ble_eq_true rfl) ?_
  intro p e s m below meth c A ls hx hb hr hml hts hown hlk hKs hK hP hD hA hS hl
  have hl : lv_has ls 4 [(0, .ref (am 0)), (1, .int x1), (2, .int x2)] := hl
  have hX : CallFix p m c cX4_numberAt 4 s _ wsX4_numberAt RX4 := ⟨hx, hb, hml, hown, hts⟩
  have hinX4 : ∀ w ∈ wsX40, w ∈ wsX4_numberAt := fun w h => List.mem_cons_of_mem _ (List.mem_append_right _ h)
  have q1 := hts (.fieldLink RX4 7 "LabelStationModel" "now" "[I") (List.mem_of_getElem? (i := 1) rfl)
  generalize hR : fx4_numberAt M x1 x2 = R
  rw [fx4_numberAt] at hR
  rw [sx4_numberAt] at hF
  refine lv_aload_n hx hb dX4_numberAt_0 rfl (lv_at hl 0 rfl) ?_
  refine va_get (D := D) (ci := 4) (v := .ref (am 1)) (C := RX4) (T := TX4) (N := 8) hx hb hts hinX4 hown hK hP 0 rfl rfl 0 (by decide) q1 (fun _ h9 => h9) rfl dX4_numberAt_1 ?_
  refine lv_iload_n hx hb dX4_numberAt_4 rfl (lv_at hl 2 rfl) ?_
  refine lv_if_eq (tgt := 13) hx hb dX4_numberAt_5 (by decide) (fun c1 => ?_) (fun c1 => ?_)
  · rw [if_pos c1] at hR hF
    refine lv_bipush (v := 36) hx hb dX4_numberAt_13 (by decide) ?_
    refine va_iald hx hb hK hP 1 0 rfl rfl (kin_lit (j := 36) (n := 1203) (by decide) (by decide)) dX4_numberAt_15 ?_
    refine kw_top (v := .int ((M.1 0) 36)) rfl ?_
    refine lv_istore_n (lv' := [(3, .int ((M.1 0) 36)), (0, .ref (am 0)), (1, .int x1), (2, .int x2)]) hx hb dX4_numberAt_16 rfl hl (by decide) rfl (fun ls hl => ?_)
    refine lv_aload_n hx hb dX4_numberAt_17 rfl (lv_at hl 1 rfl) ?_
    refine lv_iload_n hx hb dX4_numberAt_18 rfl (lv_at hl 2 rfl) ?_
    refine lv_iconst (v := 0) hx hb dX4_numberAt_19 (by decide) ?_
    refine lv_iload_n hx hb dX4_numberAt_20 rfl (lv_at hl 0 rfl) ?_
    refine lv_iconst (v := 1) hx hb dX4_numberAt_21 (by decide) ?_
    refine lv_isub hx hb dX4_numberAt_22 ?_
    refine kcsI (As := [.int x1, .int 0, .int (((M.1 0) 36) - 1)]) (rest := [.ref (am 0)]) E.1 (cx4_within E x1 0 (((M.1 0) 36) - 1)) hX (va_cwS 3 hts gX4_numberAt_X4_within rfl rfl rfl hdX4_within.2 ⟨Nat.le_of_ble_eq_true rfl, Nat.le_of_ble_eq_true rfl⟩) hKs hP hD hS hA _ _ (kw_nil _) (kw_nil _).symm rfl rfl hl.1 (Nat.le_of_ble_eq_true rfl) dX4_numberAt_23 ⟨Nat.zero_le _, Nat.zero_le _⟩ (fun H locs hP hD hS => ?_)
    refine lv_if_eq (tgt := 33) hx hb dX4_numberAt_26 (by decide) (fun c2 => ?_) (fun c2 => ?_)
    · rw [if_pos c2] at hR hF
      refine lv_iconst (v := 1) hx hb dX4_numberAt_33 (by decide) ?_
      refine kcI (ci := 4) (q0 := 0) (As := [.int 1]) (rest := []) E.1 (cx4_refused E am M 1) hX (cwV 1 hts gX4_numberAt_X4_refused rfl rfl rfl hdX4_refused ⟨Nat.le_of_ble_eq_true rfl, Nat.le_of_ble_eq_true rfl⟩) hKs hK hP hD hS hA _ _ (kw_self _) (kw_self _).symm rfl rfl rfl rfl hl.1 (Nat.le_of_ble_eq_true rfl) dX4_numberAt_34 ⟨Nat.zero_le _, Nat.zero_le _⟩ (fun H locs hP hD hS => ?_)
      have hP : va_P D vwCl (mdW cI am ((fx4_refused M 1).2)) H := hP
      have hD : va_D A (mdW cI am ((fx4_refused M 1).2)) := hD
      generalize eu3 : fx4_refused M 1 = u3 at hR hF hP hD ⊢
      replace hR := bnd_e hR
      replace hF := bnd_p hF
      refine lv_if_eq (tgt := 44) hx hb dX4_numberAt_37 (by decide) (fun c4 => ?_) (fun c4 => ?_)
      · rw [if_pos c4] at hR hF
        refine lv_aload_n hx hb dX4_numberAt_44 rfl (lv_at hl 1 rfl) ?_
        refine va_get (D := D) (ci := 4) (v := .ref (am 1)) (C := RX4) (T := TX4) (N := 8) hx hb hts hinX4 hown hK hP 0 rfl rfl 0 (by decide) q1 (fun _ h9 => h9) rfl dX4_numberAt_45 ?_
        refine lv_iload_n hx hb dX4_numberAt_48 rfl (lv_at hl 3 rfl) ?_
        refine lv_if_eq (tgt := 60) hx hb dX4_numberAt_49 (by decide) (fun _ => ?_) (fun c => absurd c1 c)
        refine lv_iload_n hx hb dX4_numberAt_60 rfl (lv_at hl 2 rfl) ?_
        refine lv_iconst (v := 0) hx hb dX4_numberAt_61 (by decide) ?_
        refine kcsI (As := [.int x1, .int 0]) (rest := [.ref (am 1)]) E.1 (cx4_thing E x1 0) hX (va_cwS 2 hts gX4_numberAt_X4_thing rfl rfl rfl hdX4_thing.2 ⟨Nat.le_of_ble_eq_true rfl, Nat.le_of_ble_eq_true rfl⟩) hKs hP hD hS hA _ _ (kw_nil _) (kw_nil _).symm rfl rfl hl.1 (Nat.le_of_ble_eq_true rfl) dX4_numberAt_62 ⟨Nat.zero_le _, Nat.zero_le _⟩ (fun H locs hP hD hS => ?_)
        have hi5 := hF
        refine va_iald hx hb hK hP 1 0 rfl rfl hi5 dX4_numberAt_65 ?_
        subst hR
        exact krI hx hb hr hlk hP hD hS dX4_numberAt_66 rfl rfl
      · rw [if_neg c4] at hR hF
        refine lv_iconst (v := 0) hx hb dX4_numberAt_40 (by decide) ?_
        refine lv_goto (tgt := 66) hx hb dX4_numberAt_41 (by decide) ?_
        subst hR
        exact krI hx hb hr hlk hP hD hS dX4_numberAt_66 rfl rfl
    · rw [if_neg c2] at hR hF
      refine lv_iconst (v := 0) hx hb dX4_numberAt_29 (by decide) ?_
      refine lv_goto (tgt := 34) hx hb dX4_numberAt_30 (by decide) ?_
      refine kcI (ci := 4) (q0 := 0) (As := [.int 0]) (rest := []) E.1 (cx4_refused E am M 0) hX (cwV 1 hts gX4_numberAt_X4_refused rfl rfl rfl hdX4_refused ⟨Nat.le_of_ble_eq_true rfl, Nat.le_of_ble_eq_true rfl⟩) hKs hK hP hD hS hA _ _ (kw_self _) (kw_self _).symm rfl rfl rfl rfl hl.1 (Nat.le_of_ble_eq_true rfl) dX4_numberAt_34 ⟨Nat.zero_le _, Nat.zero_le _⟩ (fun H locs hP hD hS => ?_)
      have hP : va_P D vwCl (mdW cI am ((fx4_refused M 0).2)) H := hP
      have hD : va_D A (mdW cI am ((fx4_refused M 0).2)) := hD
      generalize eu6 : fx4_refused M 0 = u6 at hR hF hP hD ⊢
      replace hR := bnd_e hR
      replace hF := bnd_p hF
      refine lv_if_eq (tgt := 44) hx hb dX4_numberAt_37 (by decide) (fun c7 => ?_) (fun c7 => ?_)
      · rw [if_pos c7] at hR hF
        refine lv_aload_n hx hb dX4_numberAt_44 rfl (lv_at hl 1 rfl) ?_
        refine va_get (D := D) (ci := 4) (v := .ref (am 1)) (C := RX4) (T := TX4) (N := 8) hx hb hts hinX4 hown hK hP 0 rfl rfl 0 (by decide) q1 (fun _ h9 => h9) rfl dX4_numberAt_45 ?_
        refine lv_iload_n hx hb dX4_numberAt_48 rfl (lv_at hl 3 rfl) ?_
        refine lv_if_eq (tgt := 60) hx hb dX4_numberAt_49 (by decide) (fun _ => ?_) (fun c => absurd c1 c)
        refine lv_iload_n hx hb dX4_numberAt_60 rfl (lv_at hl 2 rfl) ?_
        refine lv_iconst (v := 0) hx hb dX4_numberAt_61 (by decide) ?_
        refine kcsI (As := [.int x1, .int 0]) (rest := [.ref (am 1)]) E.1 (cx4_thing E x1 0) hX (va_cwS 2 hts gX4_numberAt_X4_thing rfl rfl rfl hdX4_thing.2 ⟨Nat.le_of_ble_eq_true rfl, Nat.le_of_ble_eq_true rfl⟩) hKs hP hD hS hA _ _ (kw_nil _) (kw_nil _).symm rfl rfl hl.1 (Nat.le_of_ble_eq_true rfl) dX4_numberAt_62 ⟨Nat.zero_le _, Nat.zero_le _⟩ (fun H locs hP hD hS => ?_)
        have hi8 := hF
        refine va_iald hx hb hK hP 1 0 rfl rfl hi8 dX4_numberAt_65 ?_
        subst hR
        exact krI hx hb hr hlk hP hD hS dX4_numberAt_66 rfl rfl
      · rw [if_neg c7] at hR hF
        refine lv_iconst (v := 0) hx hb dX4_numberAt_40 (by decide) ?_
        refine lv_goto (tgt := 66) hx hb dX4_numberAt_41 (by decide) ?_
        subst hR
        exact krI hx hb hr hlk hP hD hS dX4_numberAt_66 rfl rfl
  · rw [if_neg c1] at hR hF
    refine lv_bipush (v := 117) hx hb dX4_numberAt_8 (by decide) ?_
    refine lv_goto (tgt := 15) hx hb dX4_numberAt_10 (by decide) ?_
    refine va_iald hx hb hK hP 1 0 rfl rfl (kin_lit (j := 117) (n := 1203) (by decide) (by decide)) dX4_numberAt_15 ?_
    refine kw_top (v := .int ((M.1 0) 117)) rfl ?_
    refine lv_istore_n (lv' := [(3, .int ((M.1 0) 117)), (0, .ref (am 0)), (1, .int x1), (2, .int x2)]) hx hb dX4_numberAt_16 rfl hl (by decide) rfl (fun ls hl => ?_)
    refine lv_aload_n hx hb dX4_numberAt_17 rfl (lv_at hl 1 rfl) ?_
    refine lv_iload_n hx hb dX4_numberAt_18 rfl (lv_at hl 2 rfl) ?_
    refine lv_iconst (v := 0) hx hb dX4_numberAt_19 (by decide) ?_
    refine lv_iload_n hx hb dX4_numberAt_20 rfl (lv_at hl 0 rfl) ?_
    refine lv_iconst (v := 1) hx hb dX4_numberAt_21 (by decide) ?_
    refine lv_isub hx hb dX4_numberAt_22 ?_
    refine kcsI (As := [.int x1, .int 0, .int (((M.1 0) 117) - 1)]) (rest := [.ref (am 0)]) E.1 (cx4_within E x1 0 (((M.1 0) 117) - 1)) hX (va_cwS 3 hts gX4_numberAt_X4_within rfl rfl rfl hdX4_within.2 ⟨Nat.le_of_ble_eq_true rfl, Nat.le_of_ble_eq_true rfl⟩) hKs hP hD hS hA _ _ (kw_nil _) (kw_nil _).symm rfl rfl hl.1 (Nat.le_of_ble_eq_true rfl) dX4_numberAt_23 ⟨Nat.zero_le _, Nat.zero_le _⟩ (fun H locs hP hD hS => ?_)
    refine lv_if_eq (tgt := 33) hx hb dX4_numberAt_26 (by decide) (fun c9 => ?_) (fun c9 => ?_)
    · rw [if_pos c9] at hR hF
      refine lv_iconst (v := 1) hx hb dX4_numberAt_33 (by decide) ?_
      refine kcI (ci := 4) (q0 := 0) (As := [.int 1]) (rest := []) E.1 (cx4_refused E am M 1) hX (cwV 1 hts gX4_numberAt_X4_refused rfl rfl rfl hdX4_refused ⟨Nat.le_of_ble_eq_true rfl, Nat.le_of_ble_eq_true rfl⟩) hKs hK hP hD hS hA _ _ (kw_self _) (kw_self _).symm rfl rfl rfl rfl hl.1 (Nat.le_of_ble_eq_true rfl) dX4_numberAt_34 ⟨Nat.zero_le _, Nat.zero_le _⟩ (fun H locs hP hD hS => ?_)
      have hP : va_P D vwCl (mdW cI am ((fx4_refused M 1).2)) H := hP
      have hD : va_D A (mdW cI am ((fx4_refused M 1).2)) := hD
      generalize eu10 : fx4_refused M 1 = u10 at hR hF hP hD ⊢
      replace hR := bnd_e hR
      replace hF := bnd_p hF
      refine lv_if_eq (tgt := 44) hx hb dX4_numberAt_37 (by decide) (fun c11 => ?_) (fun c11 => ?_)
      · rw [if_pos c11] at hR hF
        refine lv_aload_n hx hb dX4_numberAt_44 rfl (lv_at hl 1 rfl) ?_
        refine va_get (D := D) (ci := 4) (v := .ref (am 1)) (C := RX4) (T := TX4) (N := 8) hx hb hts hinX4 hown hK hP 0 rfl rfl 0 (by decide) q1 (fun _ h9 => h9) rfl dX4_numberAt_45 ?_
        refine lv_iload_n hx hb dX4_numberAt_48 rfl (lv_at hl 3 rfl) ?_
        refine lv_if_eq (tgt := 60) hx hb dX4_numberAt_49 (by decide) (fun c => absurd c c1) (fun _ => ?_)
        refine lv_iload_n hx hb dX4_numberAt_52 rfl (lv_at hl 2 rfl) ?_
        refine lv_iconst (v := 0) hx hb dX4_numberAt_53 (by decide) ?_
        refine kcsI (As := [.int x1, .int 0]) (rest := [.ref (am 1)]) E.1 (cx4_entry E x1 0) hX (va_cwS 2 hts gX4_numberAt_X4_entry rfl rfl rfl hdX4_entry.2 ⟨Nat.le_of_ble_eq_true rfl, Nat.le_of_ble_eq_true rfl⟩) hKs hP hD hS hA _ _ (kw_nil _) (kw_nil _).symm rfl rfl hl.1 (Nat.le_of_ble_eq_true rfl) dX4_numberAt_54 ⟨Nat.zero_le _, Nat.zero_le _⟩ (fun H locs hP hD hS => ?_)
        refine lv_goto (tgt := 65) hx hb dX4_numberAt_57 (by decide) ?_
        have hi12 := hF
        refine va_iald hx hb hK hP 1 0 rfl rfl hi12 dX4_numberAt_65 ?_
        subst hR
        exact krI hx hb hr hlk hP hD hS dX4_numberAt_66 rfl rfl
      · rw [if_neg c11] at hR hF
        refine lv_iconst (v := 0) hx hb dX4_numberAt_40 (by decide) ?_
        refine lv_goto (tgt := 66) hx hb dX4_numberAt_41 (by decide) ?_
        subst hR
        exact krI hx hb hr hlk hP hD hS dX4_numberAt_66 rfl rfl
    · rw [if_neg c9] at hR hF
      refine lv_iconst (v := 0) hx hb dX4_numberAt_29 (by decide) ?_
      refine lv_goto (tgt := 34) hx hb dX4_numberAt_30 (by decide) ?_
      refine kcI (ci := 4) (q0 := 0) (As := [.int 0]) (rest := []) E.1 (cx4_refused E am M 0) hX (cwV 1 hts gX4_numberAt_X4_refused rfl rfl rfl hdX4_refused ⟨Nat.le_of_ble_eq_true rfl, Nat.le_of_ble_eq_true rfl⟩) hKs hK hP hD hS hA _ _ (kw_self _) (kw_self _).symm rfl rfl rfl rfl hl.1 (Nat.le_of_ble_eq_true rfl) dX4_numberAt_34 ⟨Nat.zero_le _, Nat.zero_le _⟩ (fun H locs hP hD hS => ?_)
      have hP : va_P D vwCl (mdW cI am ((fx4_refused M 0).2)) H := hP
      have hD : va_D A (mdW cI am ((fx4_refused M 0).2)) := hD
      generalize eu13 : fx4_refused M 0 = u13 at hR hF hP hD ⊢
      replace hR := bnd_e hR
      replace hF := bnd_p hF
      refine lv_if_eq (tgt := 44) hx hb dX4_numberAt_37 (by decide) (fun c14 => ?_) (fun c14 => ?_)
      · rw [if_pos c14] at hR hF
        refine lv_aload_n hx hb dX4_numberAt_44 rfl (lv_at hl 1 rfl) ?_
        refine va_get (D := D) (ci := 4) (v := .ref (am 1)) (C := RX4) (T := TX4) (N := 8) hx hb hts hinX4 hown hK hP 0 rfl rfl 0 (by decide) q1 (fun _ h9 => h9) rfl dX4_numberAt_45 ?_
        refine lv_iload_n hx hb dX4_numberAt_48 rfl (lv_at hl 3 rfl) ?_
        refine lv_if_eq (tgt := 60) hx hb dX4_numberAt_49 (by decide) (fun c => absurd c c1) (fun _ => ?_)
        refine lv_iload_n hx hb dX4_numberAt_52 rfl (lv_at hl 2 rfl) ?_
        refine lv_iconst (v := 0) hx hb dX4_numberAt_53 (by decide) ?_
        refine kcsI (As := [.int x1, .int 0]) (rest := [.ref (am 1)]) E.1 (cx4_entry E x1 0) hX (va_cwS 2 hts gX4_numberAt_X4_entry rfl rfl rfl hdX4_entry.2 ⟨Nat.le_of_ble_eq_true rfl, Nat.le_of_ble_eq_true rfl⟩) hKs hP hD hS hA _ _ (kw_nil _) (kw_nil _).symm rfl rfl hl.1 (Nat.le_of_ble_eq_true rfl) dX4_numberAt_54 ⟨Nat.zero_le _, Nat.zero_le _⟩ (fun H locs hP hD hS => ?_)
        refine lv_goto (tgt := 65) hx hb dX4_numberAt_57 (by decide) ?_
        have hi15 := hF
        refine va_iald hx hb hK hP 1 0 rfl rfl hi15 dX4_numberAt_65 ?_
        subst hR
        exact krI hx hb hr hlk hP hD hS dX4_numberAt_66 rfl rfl
      · rw [if_neg c14] at hR hF
        refine lv_iconst (v := 0) hx hb dX4_numberAt_40 (by decide) ?_
        refine lv_goto (tgt := 66) hx hb dX4_numberAt_41 (by decide) ?_
        subst hR
        exact krI hx hb hr hlk hP hD hS dX4_numberAt_66 rfl rfl

theorem hdX4_counter : yX4_counter.cls = RX4 ∧ yX4_counter.cls ≠ "java/lang/invoke/MethodHandle" ∧ yX4_counter.cls ≠ "java/lang/invoke/VarHandle" ∧ (parseMethodDescriptor yX4_counter.desc).map (fun d => d.parameters.length) = some 1 := by decide +kernel
def fx4_counter (M : Md) (x1 : Int32) : Int32 × (Md) := (if (fx4_within x1 0 17) = 0 then (bnd (fx4_refused M 1) (fun u2 => (if u2.1 = 0 then ((u2.2.1 0) (17 + x1).toNatClampNeg, u2.2) else (0, u2.2)))) else (bnd (fx4_refused M 0) (fun u5 => (if u5.1 = 0 then ((u5.2.1 0) (17 + x1).toNatClampNeg, u5.2) else (0, u5.2)))))
def sx4_counter (M : Md) (x1 : Int32) : Prop := (if (fx4_within x1 0 17) = 0 then (bnd (fx4_refused M 1) (fun u2 => (if u2.1 = 0 then vp_in (17 + x1) 1203 else True))) else (bnd (fx4_refused M 0) (fun u5 => (if u5.1 = 0 then vp_in (17 + x1) 1203 else True))))
set_option maxHeartbeats 4000000 in
set_option maxRecDepth 100000 in
theorem cx4_counter {l : Launch} {D : va_G} {cI cB cS cJ : ClassId} {K : State → Prop} (E : kE D cI cB cS cJ K) (am : Nat → Nat) (M : Md) (x1 : Int32) (hF : sx4_counter M x1) : kI l D K yX4_counter wsX4_counter 1 22 [.ref (am 0), .int x1] (mdW cI am M) (fx4_counter M x1).1 (mdW cI am ((fx4_counter M x1).2)) := by
  refine kI_of (own := RX4) (cc := cX4_counter) (maxL := 2) (tys := kty cI cB cS cJ) (fun U h => (E.2 U h).1) (by decide) rfl rfl (Nat.le_of_ble_eq_true rfl) ?_
  intro p e s m below meth c A ls hx hb hr hml hts hown hlk hKs hK hP hD hA hS hl
  have hl : lv_has ls 2 [(0, .ref (am 0)), (1, .int x1)] := hl
  have hX : CallFix p m c cX4_counter 2 s _ wsX4_counter RX4 := ⟨hx, hb, hml, hown, hts⟩
  have hinX4 : ∀ w ∈ wsX40, w ∈ wsX4_counter := fun w h => List.mem_cons_of_mem _ (List.mem_append_right _ h)
  have q1 := hts (.fieldLink RX4 7 "LabelStationModel" "now" "[I") (List.mem_of_getElem? (i := 1) rfl)
  generalize hR : fx4_counter M x1 = R
  rw [fx4_counter] at hR
  rw [sx4_counter] at hF
  refine lv_aload_n hx hb dX4_counter_0 rfl (lv_at hl 0 rfl) ?_
  refine lv_iload_n hx hb dX4_counter_1 rfl (lv_at hl 1 rfl) ?_
  refine lv_iconst (v := 0) hx hb dX4_counter_2 (by decide) ?_
  refine lv_bipush (v := 17) hx hb dX4_counter_3 (by decide) ?_
  refine kcsI (As := [.int x1, .int 0, .int 17]) (rest := [.ref (am 0)]) E.1 (cx4_within E x1 0 17) hX (va_cwS 3 hts gX4_counter_X4_within rfl rfl rfl hdX4_within.2 ⟨Nat.le_of_ble_eq_true rfl, Nat.le_of_ble_eq_true rfl⟩) hKs hP hD hS hA _ _ (kw_nil _) (kw_nil _).symm rfl rfl hl.1 (Nat.le_of_ble_eq_true rfl) dX4_counter_5 ⟨Nat.zero_le _, Nat.zero_le _⟩ (fun H locs hP hD hS => ?_)
  refine lv_if_eq (tgt := 15) hx hb dX4_counter_8 (by decide) (fun c1 => ?_) (fun c1 => ?_)
  · rw [if_pos c1] at hR hF
    refine lv_iconst (v := 1) hx hb dX4_counter_15 (by decide) ?_
    refine kcI (ci := 4) (q0 := 0) (As := [.int 1]) (rest := []) E.1 (cx4_refused E am M 1) hX (cwV 1 hts gX4_counter_X4_refused rfl rfl rfl hdX4_refused ⟨Nat.le_of_ble_eq_true rfl, Nat.le_of_ble_eq_true rfl⟩) hKs hK hP hD hS hA _ _ (kw_self _) (kw_self _).symm rfl rfl rfl rfl hl.1 (Nat.le_of_ble_eq_true rfl) dX4_counter_16 ⟨Nat.zero_le _, Nat.zero_le _⟩ (fun H locs hP hD hS => ?_)
    have hP : va_P D vwCl (mdW cI am ((fx4_refused M 1).2)) H := hP
    have hD : va_D A (mdW cI am ((fx4_refused M 1).2)) := hD
    generalize eu2 : fx4_refused M 1 = u2 at hR hF hP hD ⊢
    replace hR := bnd_e hR
    replace hF := bnd_p hF
    refine lv_if_eq (tgt := 26) hx hb dX4_counter_19 (by decide) (fun c3 => ?_) (fun c3 => ?_)
    · rw [if_pos c3] at hR hF
      refine lv_aload_n hx hb dX4_counter_26 rfl (lv_at hl 0 rfl) ?_
      refine va_get (D := D) (ci := 4) (v := .ref (am 1)) (C := RX4) (T := TX4) (N := 8) hx hb hts hinX4 hown hK hP 0 rfl rfl 0 (by decide) q1 (fun _ h9 => h9) rfl dX4_counter_27 ?_
      refine lv_bipush (v := 17) hx hb dX4_counter_30 (by decide) ?_
      refine lv_iload_n hx hb dX4_counter_32 rfl (lv_at hl 1 rfl) ?_
      refine lv_iadd hx hb dX4_counter_33 ?_
      have hi4 := hF
      refine va_iald hx hb hK hP 1 0 rfl rfl hi4 dX4_counter_34 ?_
      subst hR
      exact krI hx hb hr hlk hP hD hS dX4_counter_35 rfl rfl
    · rw [if_neg c3] at hR hF
      refine lv_iconst (v := 0) hx hb dX4_counter_22 (by decide) ?_
      refine lv_goto (tgt := 35) hx hb dX4_counter_23 (by decide) ?_
      subst hR
      exact krI hx hb hr hlk hP hD hS dX4_counter_35 rfl rfl
  · rw [if_neg c1] at hR hF
    refine lv_iconst (v := 0) hx hb dX4_counter_11 (by decide) ?_
    refine lv_goto (tgt := 16) hx hb dX4_counter_12 (by decide) ?_
    refine kcI (ci := 4) (q0 := 0) (As := [.int 0]) (rest := []) E.1 (cx4_refused E am M 0) hX (cwV 1 hts gX4_counter_X4_refused rfl rfl rfl hdX4_refused ⟨Nat.le_of_ble_eq_true rfl, Nat.le_of_ble_eq_true rfl⟩) hKs hK hP hD hS hA _ _ (kw_self _) (kw_self _).symm rfl rfl rfl rfl hl.1 (Nat.le_of_ble_eq_true rfl) dX4_counter_16 ⟨Nat.zero_le _, Nat.zero_le _⟩ (fun H locs hP hD hS => ?_)
    have hP : va_P D vwCl (mdW cI am ((fx4_refused M 0).2)) H := hP
    have hD : va_D A (mdW cI am ((fx4_refused M 0).2)) := hD
    generalize eu5 : fx4_refused M 0 = u5 at hR hF hP hD ⊢
    replace hR := bnd_e hR
    replace hF := bnd_p hF
    refine lv_if_eq (tgt := 26) hx hb dX4_counter_19 (by decide) (fun c6 => ?_) (fun c6 => ?_)
    · rw [if_pos c6] at hR hF
      refine lv_aload_n hx hb dX4_counter_26 rfl (lv_at hl 0 rfl) ?_
      refine va_get (D := D) (ci := 4) (v := .ref (am 1)) (C := RX4) (T := TX4) (N := 8) hx hb hts hinX4 hown hK hP 0 rfl rfl 0 (by decide) q1 (fun _ h9 => h9) rfl dX4_counter_27 ?_
      refine lv_bipush (v := 17) hx hb dX4_counter_30 (by decide) ?_
      refine lv_iload_n hx hb dX4_counter_32 rfl (lv_at hl 1 rfl) ?_
      refine lv_iadd hx hb dX4_counter_33 ?_
      have hi7 := hF
      refine va_iald hx hb hK hP 1 0 rfl rfl hi7 dX4_counter_34 ?_
      subst hR
      exact krI hx hb hr hlk hP hD hS dX4_counter_35 rfl rfl
    · rw [if_neg c6] at hR hF
      refine lv_iconst (v := 0) hx hb dX4_counter_22 (by decide) ?_
      refine lv_goto (tgt := 35) hx hb dX4_counter_23 (by decide) ?_
      subst hR
      exact krI hx hb hr hlk hP hD hS dX4_counter_35 rfl rfl

theorem hdX4_reconcile : yX4_reconcile.cls = RX4 ∧ yX4_reconcile.cls ≠ "java/lang/invoke/MethodHandle" ∧ yX4_reconcile.cls ≠ "java/lang/invoke/VarHandle" ∧ (parseMethodDescriptor yX4_reconcile.desc).map (fun d => d.parameters.length) = some 1 := by decide +kernel
def fx4_reconcile (M : Md) (x1 : Int32) : Int32 × (Md) := (if x1 = 0 then ((((((M.1 0) 17) - ((M.1 0) 18)) - ((M.1 0) 19)) - ((M.1 0) 20)) - ((M.1 0) 117), (sset M.1 4 1 0, M.2)) else ((((((M.1 0) 17) - ((M.1 0) 25)) - ((M.1 0) 35)) - ((M.1 0) 24)) - ((M.1 0) 36), (sset M.1 4 1 0, M.2)))
set_option maxHeartbeats 4000000 in
set_option maxRecDepth 100000 in
theorem cx4_reconcile {l : Launch} {D : va_G} {cI cB cS cJ : ClassId} {K : State → Prop} (E : kE D cI cB cS cJ K) (am : Nat → Nat) (M : Md) (x1 : Int32) : kI l D K yX4_reconcile wsX4_reconcile 0 0 [.ref (am 0), .int x1] (mdW cI am M) (fx4_reconcile M x1).1 (mdW cI am ((fx4_reconcile M x1).2)) := by
  refine kI_of (own := RX4) (cc := cX4_reconcile) (maxL := 3) (tys := kty cI cB cS cJ) (fun U h => (E.2 U h).1) (by decide) rfl rfl (Nat.le_of_ble_eq_true rfl) ?_
  intro p e s m below meth c A ls hx hb hr hml hts hown hlk hKs hK hP hD hA hS hl
  have hl : lv_has ls 3 [(0, .ref (am 0)), (1, .int x1)] := hl
  have hX : CallFix p m c cX4_reconcile 3 s _ wsX4_reconcile RX4 := ⟨hx, hb, hml, hown, hts⟩
  have hinX4 : ∀ w ∈ wsX40, w ∈ wsX4_reconcile := fun w h => List.mem_cons_of_mem _ (List.mem_append_right _ h)
  have q1 := hts (.fieldLink RX4 22 "LabelStationModel" "refusal" "I") (List.mem_of_getElem? (i := 1) rfl)
  have q2 := hts (.fieldLink RX4 7 "LabelStationModel" "now" "[I") (List.mem_of_getElem? (i := 2) rfl)
  generalize hR : fx4_reconcile M x1 = R
  rw [fx4_reconcile] at hR
  refine lv_aload_n hx hb dX4_reconcile_0 rfl (lv_at hl 0 rfl) ?_
  refine lv_iconst (v := 0) hx hb dX4_reconcile_1 (by decide) ?_
  refine va_put (D := D) (ci := 4) (v := .int 0) (ty := .int) (C := RX4) (T := TX4) (N := 8) hx hb hts hinX4 tyX4 tyX4_ok nmX4 hown hK hP hD hS 0 rfl rfl 4 (by decide) q1 (fun _ h9 => h9) rfl (by decide +kernel) rfl rfl (Nat.le_of_ble_eq_true rfl) dX4_reconcile_2 (fun H locs hP hD hS => ?_)
  have hP : va_P D vwCl (mdW cI am (sset M.1 4 1 0, M.2)) H := hP
  have hD : va_D A (mdW cI am (sset M.1 4 1 0, M.2)) := hD
  refine lv_aload_n hx hb dX4_reconcile_5 rfl (lv_at hl 0 rfl) ?_
  refine va_get (D := D) (ci := 4) (v := .ref (am 1)) (C := RX4) (T := TX4) (N := 8) hx hb hts hinX4 hown hK hP 0 rfl rfl 0 (by decide) q2 (fun _ h9 => h9) rfl dX4_reconcile_6 ?_
  refine lv_bipush (v := 17) hx hb dX4_reconcile_9 (by decide) ?_
  refine va_iald hx hb hK hP 1 0 rfl rfl (kin_lit (j := 17) (n := 1203) (by decide) (by decide)) dX4_reconcile_11 ?_
  refine kw_top (v := .int ((M.1 0) 17)) rfl ?_
  refine lv_istore_n (lv' := [(2, .int ((M.1 0) 17)), (0, .ref (am 0)), (1, .int x1)]) hx hb dX4_reconcile_12 rfl hl (by decide) rfl (fun ls hl => ?_)
  refine lv_iload_n hx hb dX4_reconcile_13 rfl (lv_at hl 2 rfl) ?_
  refine lv_if_eq (tgt := 51) hx hb dX4_reconcile_14 (by decide) (fun c1 => ?_) (fun c1 => ?_)
  · rw [if_pos c1] at hR
    refine lv_iload_n hx hb dX4_reconcile_51 rfl (lv_at hl 0 rfl) ?_
    refine lv_aload_n hx hb dX4_reconcile_52 rfl (lv_at hl 1 rfl) ?_
    refine va_get (D := D) (ci := 4) (v := .ref (am 1)) (C := RX4) (T := TX4) (N := 8) hx hb hts hinX4 hown hK hP 0 rfl rfl 0 (by decide) q2 (fun _ h9 => h9) rfl dX4_reconcile_53 ?_
    refine lv_bipush (v := 18) hx hb dX4_reconcile_56 (by decide) ?_
    refine va_iald hx hb hK hP 1 0 rfl rfl (kin_lit (j := 18) (n := 1203) (by decide) (by decide)) dX4_reconcile_58 ?_
    refine kw_top (v := .int ((M.1 0) 18)) rfl ?_
    refine lv_isub hx hb dX4_reconcile_59 ?_
    refine lv_aload_n hx hb dX4_reconcile_60 rfl (lv_at hl 1 rfl) ?_
    refine va_get (D := D) (ci := 4) (v := .ref (am 1)) (C := RX4) (T := TX4) (N := 8) hx hb hts hinX4 hown hK hP 0 rfl rfl 0 (by decide) q2 (fun _ h9 => h9) rfl dX4_reconcile_61 ?_
    refine lv_bipush (v := 19) hx hb dX4_reconcile_64 (by decide) ?_
    refine va_iald hx hb hK hP 1 0 rfl rfl (kin_lit (j := 19) (n := 1203) (by decide) (by decide)) dX4_reconcile_66 ?_
    refine kw_top (v := .int ((M.1 0) 19)) rfl ?_
    refine lv_isub hx hb dX4_reconcile_67 ?_
    refine lv_aload_n hx hb dX4_reconcile_68 rfl (lv_at hl 1 rfl) ?_
    refine va_get (D := D) (ci := 4) (v := .ref (am 1)) (C := RX4) (T := TX4) (N := 8) hx hb hts hinX4 hown hK hP 0 rfl rfl 0 (by decide) q2 (fun _ h9 => h9) rfl dX4_reconcile_69 ?_
    refine lv_bipush (v := 20) hx hb dX4_reconcile_72 (by decide) ?_
    refine va_iald hx hb hK hP 1 0 rfl rfl (kin_lit (j := 20) (n := 1203) (by decide) (by decide)) dX4_reconcile_74 ?_
    refine kw_top (v := .int ((M.1 0) 20)) rfl ?_
    refine lv_isub hx hb dX4_reconcile_75 ?_
    refine lv_aload_n hx hb dX4_reconcile_76 rfl (lv_at hl 1 rfl) ?_
    refine va_get (D := D) (ci := 4) (v := .ref (am 1)) (C := RX4) (T := TX4) (N := 8) hx hb hts hinX4 hown hK hP 0 rfl rfl 0 (by decide) q2 (fun _ h9 => h9) rfl dX4_reconcile_77 ?_
    refine lv_bipush (v := 117) hx hb dX4_reconcile_80 (by decide) ?_
    refine va_iald hx hb hK hP 1 0 rfl rfl (kin_lit (j := 117) (n := 1203) (by decide) (by decide)) dX4_reconcile_82 ?_
    refine kw_top (v := .int ((M.1 0) 117)) rfl ?_
    refine lv_isub hx hb dX4_reconcile_83 ?_
    subst hR
    exact krI hx hb hr hlk hP hD hS dX4_reconcile_84 rfl rfl
  · rw [if_neg c1] at hR
    refine lv_iload_n hx hb dX4_reconcile_17 rfl (lv_at hl 0 rfl) ?_
    refine lv_aload_n hx hb dX4_reconcile_18 rfl (lv_at hl 1 rfl) ?_
    refine va_get (D := D) (ci := 4) (v := .ref (am 1)) (C := RX4) (T := TX4) (N := 8) hx hb hts hinX4 hown hK hP 0 rfl rfl 0 (by decide) q2 (fun _ h9 => h9) rfl dX4_reconcile_19 ?_
    refine lv_bipush (v := 25) hx hb dX4_reconcile_22 (by decide) ?_
    refine va_iald hx hb hK hP 1 0 rfl rfl (kin_lit (j := 25) (n := 1203) (by decide) (by decide)) dX4_reconcile_24 ?_
    refine kw_top (v := .int ((M.1 0) 25)) rfl ?_
    refine lv_isub hx hb dX4_reconcile_25 ?_
    refine lv_aload_n hx hb dX4_reconcile_26 rfl (lv_at hl 1 rfl) ?_
    refine va_get (D := D) (ci := 4) (v := .ref (am 1)) (C := RX4) (T := TX4) (N := 8) hx hb hts hinX4 hown hK hP 0 rfl rfl 0 (by decide) q2 (fun _ h9 => h9) rfl dX4_reconcile_27 ?_
    refine lv_bipush (v := 35) hx hb dX4_reconcile_30 (by decide) ?_
    refine va_iald hx hb hK hP 1 0 rfl rfl (kin_lit (j := 35) (n := 1203) (by decide) (by decide)) dX4_reconcile_32 ?_
    refine kw_top (v := .int ((M.1 0) 35)) rfl ?_
    refine lv_isub hx hb dX4_reconcile_33 ?_
    refine lv_aload_n hx hb dX4_reconcile_34 rfl (lv_at hl 1 rfl) ?_
    refine va_get (D := D) (ci := 4) (v := .ref (am 1)) (C := RX4) (T := TX4) (N := 8) hx hb hts hinX4 hown hK hP 0 rfl rfl 0 (by decide) q2 (fun _ h9 => h9) rfl dX4_reconcile_35 ?_
    refine lv_bipush (v := 24) hx hb dX4_reconcile_38 (by decide) ?_
    refine va_iald hx hb hK hP 1 0 rfl rfl (kin_lit (j := 24) (n := 1203) (by decide) (by decide)) dX4_reconcile_40 ?_
    refine kw_top (v := .int ((M.1 0) 24)) rfl ?_
    refine lv_isub hx hb dX4_reconcile_41 ?_
    refine lv_aload_n hx hb dX4_reconcile_42 rfl (lv_at hl 1 rfl) ?_
    refine va_get (D := D) (ci := 4) (v := .ref (am 1)) (C := RX4) (T := TX4) (N := 8) hx hb hts hinX4 hown hK hP 0 rfl rfl 0 (by decide) q2 (fun _ h9 => h9) rfl dX4_reconcile_43 ?_
    refine lv_bipush (v := 36) hx hb dX4_reconcile_46 (by decide) ?_
    refine va_iald hx hb hK hP 1 0 rfl rfl (kin_lit (j := 36) (n := 1203) (by decide) (by decide)) dX4_reconcile_48 ?_
    refine kw_top (v := .int ((M.1 0) 36)) rfl ?_
    refine lv_isub hx hb dX4_reconcile_49 ?_
    subst hR
    exact krI hx hb hr hlk hP hD hS dX4_reconcile_50 rfl rfl

theorem hdX4_goodShare : yX4_goodShare.cls = RX4 ∧ yX4_goodShare.cls ≠ "java/lang/invoke/MethodHandle" ∧ yX4_goodShare.cls ≠ "java/lang/invoke/VarHandle" ∧ (parseMethodDescriptor yX4_goodShare.desc).map (fun d => d.parameters.length) = some 0 := by decide +kernel
def fx4_goodShare (M : Md) : UInt64 × (Md) := (if ((((M.1 0) 18) + ((M.1 0) 19)) + ((M.1 0) 20)) = 0 then (0, (sset M.1 4 1 0, M.2)) else (FP.ddiv (FP.i2d ((M.1 0) 18)) (FP.i2d ((((M.1 0) 18) + ((M.1 0) 19)) + ((M.1 0) 20))), (sset M.1 4 1 0, M.2)))
def sx4_goodShare (M : Md) : Prop := (if ((((M.1 0) 18) + ((M.1 0) 19)) + ((M.1 0) 20)) = 0 then True else vf_n64 (FP.ddiv (FP.i2d ((M.1 0) 18)) (FP.i2d ((((M.1 0) 18) + ((M.1 0) 19)) + ((M.1 0) 20)))))
set_option maxHeartbeats 4000000 in
set_option maxRecDepth 100000 in
theorem cx4_goodShare {l : Launch} {D : va_G} {cI cB cS cJ : ClassId} {K : State → Prop} (E : kE D cI cB cS cJ K) (am : Nat → Nat) (M : Md) (hF : sx4_goodShare M) : kF l D K yX4_goodShare wsX4_goodShare 0 0 [.ref (am 0)] (mdW cI am M) (fx4_goodShare M).1 (mdW cI am ((fx4_goodShare M).2)) := by
  refine kF_of (own := RX4) (cc := cX4_goodShare) (maxL := 2) (tys := kty cI cB cS cJ) (fun U h => (E.2 U h).1) (by decide) rfl rfl (Nat.le_of_ble_eq_true rfl) ?_
  intro p e s m below meth c A ls hx hb hr hml hts hown hlk hKs hK hP hD hA hS hl
  have hl : lv_has ls 2 [(0, .ref (am 0))] := hl
  have hX : CallFix p m c cX4_goodShare 2 s _ wsX4_goodShare RX4 := ⟨hx, hb, hml, hown, hts⟩
  have hinX4 : ∀ w ∈ wsX40, w ∈ wsX4_goodShare := fun w h => List.mem_cons_of_mem _ (List.mem_append_right _ h)
  have q1 := hts (.fieldLink RX4 22 "LabelStationModel" "refusal" "I") (List.mem_of_getElem? (i := 1) rfl)
  have q2 := hts (.fieldLink RX4 7 "LabelStationModel" "now" "[I") (List.mem_of_getElem? (i := 2) rfl)
  generalize hR : fx4_goodShare M = R
  rw [fx4_goodShare] at hR
  rw [sx4_goodShare] at hF
  refine lv_aload_n hx hb dX4_goodShare_0 rfl (lv_at hl 0 rfl) ?_
  refine lv_iconst (v := 0) hx hb dX4_goodShare_1 (by decide) ?_
  refine va_put (D := D) (ci := 4) (v := .int 0) (ty := .int) (C := RX4) (T := TX4) (N := 8) hx hb hts hinX4 tyX4 tyX4_ok nmX4 hown hK hP hD hS 0 rfl rfl 4 (by decide) q1 (fun _ h9 => h9) rfl (by decide +kernel) rfl rfl (Nat.le_of_ble_eq_true rfl) dX4_goodShare_2 (fun H locs hP hD hS => ?_)
  have hP : va_P D vwCl (mdW cI am (sset M.1 4 1 0, M.2)) H := hP
  have hD : va_D A (mdW cI am (sset M.1 4 1 0, M.2)) := hD
  refine lv_aload_n hx hb dX4_goodShare_5 rfl (lv_at hl 0 rfl) ?_
  refine va_get (D := D) (ci := 4) (v := .ref (am 1)) (C := RX4) (T := TX4) (N := 8) hx hb hts hinX4 hown hK hP 0 rfl rfl 0 (by decide) q2 (fun _ h9 => h9) rfl dX4_goodShare_6 ?_
  refine lv_bipush (v := 18) hx hb dX4_goodShare_9 (by decide) ?_
  refine va_iald hx hb hK hP 1 0 rfl rfl (kin_lit (j := 18) (n := 1203) (by decide) (by decide)) dX4_goodShare_11 ?_
  refine kw_top (v := .int ((M.1 0) 18)) rfl ?_
  refine lv_aload_n hx hb dX4_goodShare_12 rfl (lv_at hl 0 rfl) ?_
  refine va_get (D := D) (ci := 4) (v := .ref (am 1)) (C := RX4) (T := TX4) (N := 8) hx hb hts hinX4 hown hK hP 0 rfl rfl 0 (by decide) q2 (fun _ h9 => h9) rfl dX4_goodShare_13 ?_
  refine lv_bipush (v := 19) hx hb dX4_goodShare_16 (by decide) ?_
  refine va_iald hx hb hK hP 1 0 rfl rfl (kin_lit (j := 19) (n := 1203) (by decide) (by decide)) dX4_goodShare_18 ?_
  refine kw_top (v := .int ((M.1 0) 19)) rfl ?_
  refine lv_iadd hx hb dX4_goodShare_19 ?_
  refine lv_aload_n hx hb dX4_goodShare_20 rfl (lv_at hl 0 rfl) ?_
  refine va_get (D := D) (ci := 4) (v := .ref (am 1)) (C := RX4) (T := TX4) (N := 8) hx hb hts hinX4 hown hK hP 0 rfl rfl 0 (by decide) q2 (fun _ h9 => h9) rfl dX4_goodShare_21 ?_
  refine lv_bipush (v := 20) hx hb dX4_goodShare_24 (by decide) ?_
  refine va_iald hx hb hK hP 1 0 rfl rfl (kin_lit (j := 20) (n := 1203) (by decide) (by decide)) dX4_goodShare_26 ?_
  refine kw_top (v := .int ((M.1 0) 20)) rfl ?_
  refine lv_iadd hx hb dX4_goodShare_27 ?_
  refine lv_istore_n (lv' := [(1, .int ((((M.1 0) 18) + ((M.1 0) 19)) + ((M.1 0) 20))), (0, .ref (am 0))]) hx hb dX4_goodShare_28 rfl hl (by decide) rfl (fun ls hl => ?_)
  refine lv_iload_n hx hb dX4_goodShare_29 rfl (lv_at hl 0 rfl) ?_
  refine lv_if_ne (tgt := 37) hx hb dX4_goodShare_30 (by decide) (fun c1 => ?_) (fun c1 => ?_)
  · rw [if_neg c1] at hR hF
    refine lv_aload_n hx hb dX4_goodShare_37 rfl (lv_at hl 1 rfl) ?_
    refine va_get (D := D) (ci := 4) (v := .ref (am 1)) (C := RX4) (T := TX4) (N := 8) hx hb hts hinX4 hown hK hP 0 rfl rfl 0 (by decide) q2 (fun _ h9 => h9) rfl dX4_goodShare_38 ?_
    refine lv_bipush (v := 18) hx hb dX4_goodShare_41 (by decide) ?_
    refine va_iald hx hb hK hP 1 0 rfl rfl (kin_lit (j := 18) (n := 1203) (by decide) (by decide)) dX4_goodShare_43 ?_
    refine kw_top (v := .int ((M.1 0) 18)) rfl ?_
    refine lv_i2d hx hb dX4_goodShare_44 ?_
    refine lv_iload_n hx hb dX4_goodShare_45 rfl (lv_at hl 0 rfl) ?_
    refine lv_i2d hx hb dX4_goodShare_46 ?_
    have hn2 := hF
    refine lv_ddiv hx hb dX4_goodShare_47 hn2 ?_
    subst hR
    exact krF hx hb hr hlk hP hD hS dX4_goodShare_48 rfl rfl
  · rw [if_pos c1] at hR hF
    refine lv_dconst0 hx hb dX4_goodShare_33 ?_
    refine lv_goto (tgt := 48) hx hb dX4_goodShare_34 (by decide) ?_
    subst hR
    exact krF hx hb hr hlk hP hD hS dX4_goodShare_48 rfl rfl

theorem hdX4_spare : yX4_spare.cls = RX4 ∧ yX4_spare.cls ≠ "java/lang/invoke/MethodHandle" ∧ yX4_spare.cls ≠ "java/lang/invoke/VarHandle" ∧ (parseMethodDescriptor yX4_spare.desc).map (fun d => d.parameters.length) = some 1 := by decide +kernel
def fx4_spare (M : Md) (x1 : Int32) : Int32 × (Md) := (if (fx4_within x1 1 10) = 0 then (bnd (fx4_refused M 1) (fun u2 => (if u2.1 = 0 then (bnd (fx4_spareOf (u2.2.1 0) x1) (fun v4 => (v4, u2.2))) else (0, u2.2)))) else (bnd (fx4_refused M 0) (fun u5 => (if u5.1 = 0 then (bnd (fx4_spareOf (u5.2.1 0) x1) (fun v7 => (v7, u5.2))) else (0, u5.2)))))
set_option maxHeartbeats 4000000 in
set_option maxRecDepth 100000 in
theorem cx4_spare {l : Launch} {D : va_G} {cI cB cS cJ : ClassId} {K : State → Prop} (E : kE D cI cB cS cJ K) (am : Nat → Nat) (M : Md) (x1 : Int32) : kI l D K yX4_spare wsX4_spare 1 22 [.ref (am 0), .int x1] (mdW cI am M) (fx4_spare M x1).1 (mdW cI am ((fx4_spare M x1).2)) := by
  refine kI_of (own := RX4) (cc := cX4_spare) (maxL := 2) (tys := kty cI cB cS cJ) (fun U h => (E.2 U h).1) (by decide) rfl rfl (Nat.le_of_ble_eq_true rfl) ?_
  intro p e s m below meth c A ls hx hb hr hml hts hown hlk hKs hK hP hD hA hS hl
  have hl : lv_has ls 2 [(0, .ref (am 0)), (1, .int x1)] := hl
  have hX : CallFix p m c cX4_spare 2 s _ wsX4_spare RX4 := ⟨hx, hb, hml, hown, hts⟩
  generalize hR : fx4_spare M x1 = R
  rw [fx4_spare] at hR
  refine lv_aload_n hx hb dX4_spare_0 rfl (lv_at hl 0 rfl) ?_
  refine lv_iload_n hx hb dX4_spare_1 rfl (lv_at hl 1 rfl) ?_
  refine lv_iconst (v := 1) hx hb dX4_spare_2 (by decide) ?_
  refine lv_bipush (v := 10) hx hb dX4_spare_3 (by decide) ?_
  refine kcsI (As := [.int x1, .int 1, .int 10]) (rest := [.ref (am 0)]) E.1 (cx4_within E x1 1 10) hX (va_cwS 3 hts gX4_spare_X4_within rfl rfl rfl hdX4_within.2 ⟨Nat.le_of_ble_eq_true rfl, Nat.le_of_ble_eq_true rfl⟩) hKs hP hD hS hA _ _ (kw_nil _) (kw_nil _).symm rfl rfl hl.1 (Nat.le_of_ble_eq_true rfl) dX4_spare_5 ⟨Nat.zero_le _, Nat.zero_le _⟩ (fun H locs hP hD hS => ?_)
  refine lv_if_eq (tgt := 15) hx hb dX4_spare_8 (by decide) (fun c1 => ?_) (fun c1 => ?_)
  · rw [if_pos c1] at hR
    refine lv_iconst (v := 1) hx hb dX4_spare_15 (by decide) ?_
    refine kcI (ci := 4) (q0 := 0) (As := [.int 1]) (rest := []) E.1 (cx4_refused E am M 1) hX (cwV 1 hts gX4_spare_X4_refused rfl rfl rfl hdX4_refused ⟨Nat.le_of_ble_eq_true rfl, Nat.le_of_ble_eq_true rfl⟩) hKs hK hP hD hS hA _ _ (kw_self _) (kw_self _).symm rfl rfl rfl rfl hl.1 (Nat.le_of_ble_eq_true rfl) dX4_spare_16 ⟨Nat.zero_le _, Nat.zero_le _⟩ (fun H locs hP hD hS => ?_)
    have hP : va_P D vwCl (mdW cI am ((fx4_refused M 1).2)) H := hP
    have hD : va_D A (mdW cI am ((fx4_refused M 1).2)) := hD
    generalize eu2 : fx4_refused M 1 = u2 at hR hP hD ⊢
    replace hR := bnd_e hR
    refine lv_if_eq (tgt := 26) hx hb dX4_spare_19 (by decide) (fun c3 => ?_) (fun c3 => ?_)
    · rw [if_pos c3] at hR
      refine lv_aload_n hx hb dX4_spare_26 rfl (lv_at hl 0 rfl) ?_
      refine lv_iload_n hx hb dX4_spare_27 rfl (lv_at hl 1 rfl) ?_
      refine kcI (ci := 4) (q0 := 0) (As := [.int x1]) (rest := []) E.1 (cx4_spareOf E am (u2.2.1 4 0) (u2.2.1 4 1) (u2.2.1 4 2) u2.2.2 (u2.2.1 0) x1) hX (cwV 1 hts gX4_spare_X4_spareOf rfl rfl rfl hdX4_spareOf ⟨Nat.le_of_ble_eq_true rfl, Nat.le_of_ble_eq_true rfl⟩) hKs hK hP hD hS hA _ _ (md_mn cI am u2.2) (md_mn cI am u2.2).symm rfl rfl rfl rfl hl.1 (Nat.le_of_ble_eq_true rfl) dX4_spare_28 ⟨Nat.zero_le _, Nat.zero_le _⟩ (fun H locs hP hD hS => ?_)
      generalize ev4 : fx4_spareOf (u2.2.1 0) x1 = v4 at hR ⊢
      replace hR := bnd_e hR
      subst hR
      exact krI hx hb hr hlk hP hD hS dX4_spare_31 rfl rfl
    · rw [if_neg c3] at hR
      refine lv_iconst (v := 0) hx hb dX4_spare_22 (by decide) ?_
      refine lv_goto (tgt := 31) hx hb dX4_spare_23 (by decide) ?_
      subst hR
      exact krI hx hb hr hlk hP hD hS dX4_spare_31 rfl rfl
  · rw [if_neg c1] at hR
    refine lv_iconst (v := 0) hx hb dX4_spare_11 (by decide) ?_
    refine lv_goto (tgt := 16) hx hb dX4_spare_12 (by decide) ?_
    refine kcI (ci := 4) (q0 := 0) (As := [.int 0]) (rest := []) E.1 (cx4_refused E am M 0) hX (cwV 1 hts gX4_spare_X4_refused rfl rfl rfl hdX4_refused ⟨Nat.le_of_ble_eq_true rfl, Nat.le_of_ble_eq_true rfl⟩) hKs hK hP hD hS hA _ _ (kw_self _) (kw_self _).symm rfl rfl rfl rfl hl.1 (Nat.le_of_ble_eq_true rfl) dX4_spare_16 ⟨Nat.zero_le _, Nat.zero_le _⟩ (fun H locs hP hD hS => ?_)
    have hP : va_P D vwCl (mdW cI am ((fx4_refused M 0).2)) H := hP
    have hD : va_D A (mdW cI am ((fx4_refused M 0).2)) := hD
    generalize eu5 : fx4_refused M 0 = u5 at hR hP hD ⊢
    replace hR := bnd_e hR
    refine lv_if_eq (tgt := 26) hx hb dX4_spare_19 (by decide) (fun c6 => ?_) (fun c6 => ?_)
    · rw [if_pos c6] at hR
      refine lv_aload_n hx hb dX4_spare_26 rfl (lv_at hl 0 rfl) ?_
      refine lv_iload_n hx hb dX4_spare_27 rfl (lv_at hl 1 rfl) ?_
      refine kcI (ci := 4) (q0 := 0) (As := [.int x1]) (rest := []) E.1 (cx4_spareOf E am (u5.2.1 4 0) (u5.2.1 4 1) (u5.2.1 4 2) u5.2.2 (u5.2.1 0) x1) hX (cwV 1 hts gX4_spare_X4_spareOf rfl rfl rfl hdX4_spareOf ⟨Nat.le_of_ble_eq_true rfl, Nat.le_of_ble_eq_true rfl⟩) hKs hK hP hD hS hA _ _ (md_mn cI am u5.2) (md_mn cI am u5.2).symm rfl rfl rfl rfl hl.1 (Nat.le_of_ble_eq_true rfl) dX4_spare_28 ⟨Nat.zero_le _, Nat.zero_le _⟩ (fun H locs hP hD hS => ?_)
      generalize ev7 : fx4_spareOf (u5.2.1 0) x1 = v7 at hR ⊢
      replace hR := bnd_e hR
      subst hR
      exact krI hx hb hr hlk hP hD hS dX4_spare_31 rfl rfl
    · rw [if_neg c6] at hR
      refine lv_iconst (v := 0) hx hb dX4_spare_22 (by decide) ?_
      refine lv_goto (tgt := 31) hx hb dX4_spare_23 (by decide) ?_
      subst hR
      exact krI hx hb hr hlk hP hD hS dX4_spare_31 rfl rfl

theorem hdX4_fastest : yX4_fastest.cls = RX4 ∧ yX4_fastest.cls ≠ "java/lang/invoke/MethodHandle" ∧ yX4_fastest.cls ≠ "java/lang/invoke/VarHandle" ∧ (parseMethodDescriptor yX4_fastest.desc).map (fun d => d.parameters.length) = some 0 := by decide +kernel
def fx4_fastest_L9 : Nat → Int32 → Int32 → Md → Int32 × (Md)
  | 0, _, _, M => (0, M)
  | n9 + 1, y1, y2, M => (if 10 < y2 then (y1, M) else (bnd (fx4_spareOf (M.1 0) y2) (fun v2 => (if v2 ≤ 0 then fx4_fastest_L9 n9 y1 (y2 + 1) M else fx4_fastest_L9 n9 y2 (y2 + 1) M))))
def sx4_fastest_L9 : Nat → Int32 → Int32 → Md → Prop
  | 0, _, _, _ => False
  | n9 + 1, y1, y2, M => (if 10 < y2 then True else (bnd (fx4_spareOf (M.1 0) y2) (fun v2 => (if v2 ≤ 0 then sx4_fastest_L9 n9 y1 (y2 + 1) M else sx4_fastest_L9 n9 y2 (y2 + 1) M))))
def fx4_fastest (M : Md) : Int32 × (Md) := fx4_fastest_L9 kfu (-1) 1 (sset M.1 4 1 0, M.2)
def sx4_fastest (M : Md) : Prop := sx4_fastest_L9 kfu (-1) 1 (sset M.1 4 1 0, M.2)
set_option maxHeartbeats 4000000 in
set_option maxRecDepth 100000 in
theorem cx4_fastest {l : Launch} {D : va_G} {cI cB cS cJ : ClassId} {K : State → Prop} (E : kE D cI cB cS cJ K) (am : Nat → Nat) (M : Md) (hF : sx4_fastest M) : kI l D K yX4_fastest wsX4_fastest 1 21 [.ref (am 0)] (mdW cI am M) (fx4_fastest M).1 (mdW cI am ((fx4_fastest M).2)) := by
  refine kI_of (own := RX4) (cc := cX4_fastest) (maxL := 3) (tys := kty cI cB cS cJ) (fun U h => (E.2 U h).1) (by decide) rfl rfl (Nat.le_of_ble_eq_true rfl) ?_
  intro p e s m below meth c A ls hx hb hr hml hts hown hlk hKs hK hP hD hA hS hl
  have hl : lv_has ls 3 [(0, .ref (am 0))] := hl
  have hX : CallFix p m c cX4_fastest 3 s _ wsX4_fastest RX4 := ⟨hx, hb, hml, hown, hts⟩
  have hinX4 : ∀ w ∈ wsX40, w ∈ wsX4_fastest := fun w h => List.mem_cons_of_mem _ (List.mem_append_right _ h)
  have q1 := hts (.fieldLink RX4 22 "LabelStationModel" "refusal" "I") (List.mem_of_getElem? (i := 1) rfl)
  generalize hR : fx4_fastest M = R
  rw [fx4_fastest] at hR
  rw [sx4_fastest] at hF
  refine lv_aload_n hx hb dX4_fastest_0 rfl (lv_at hl 0 rfl) ?_
  refine lv_iconst (v := 0) hx hb dX4_fastest_1 (by decide) ?_
  refine va_put (D := D) (ci := 4) (v := .int 0) (ty := .int) (C := RX4) (T := TX4) (N := 8) hx hb hts hinX4 tyX4 tyX4_ok nmX4 hown hK hP hD hS 0 rfl rfl 4 (by decide) q1 (fun _ h9 => h9) rfl (by decide +kernel) rfl rfl (Nat.le_of_ble_eq_true rfl) dX4_fastest_2 (fun H locs hP hD hS => ?_)
  have hP : va_P D vwCl (mdW cI am (sset M.1 4 1 0, M.2)) H := hP
  have hD : va_D A (mdW cI am (sset M.1 4 1 0, M.2)) := hD
  refine lv_iconst (v := (-1)) hx hb dX4_fastest_5 (by decide) ?_
  refine lv_istore_n (lv' := [(1, .int (-1)), (0, .ref (am 0))]) hx hb dX4_fastest_6 rfl hl (by decide) rfl (fun ls hl => ?_)
  refine lv_iconst (v := 1) hx hb dX4_fastest_7 (by decide) ?_
  refine lv_istore_n (lv' := [(2, .int 1), (1, .int (-1)), (0, .ref (am 0))]) hx hb dX4_fastest_8 rfl hl (by decide) rfl (fun ls hl => ?_)
  have loop9 : ∀ (n9 : Nat) (y1 : Int32) (y2 : Int32) (M : Md) (H : Heap) (locs : List Loc) (ls : Array Slot), fx4_fastest_L9 n9 y1 y2 M = R → sx4_fastest_L9 n9 y1 y2 M → va_P D vwCl (mdW cI am M) H → va_D A (mdW cI am M) → va_S A s.heap H locs → lv_has ls 3 [(1, .int y1), (2, .int y2), (0, .ref (am 0))] → W p l e (kRm 1 21) s m ([.ref (am 0)] : List Value).toArray below meth c H locs 0 0 (kQI D below R.1 (mdW cI am R.2) A ([.ref (am 0)] : List Value).toArray s) (F0 m 9 ls []) := by
    intro n9
    induction n9 with
    | zero => intro y1 y2 M H locs ls hR hF; exact hF.elim
    | succ n9 ih9 =>
      intro y1 y2 M H locs ls hR hF hP hD hS hl
      rw [fx4_fastest_L9] at hR
      rw [sx4_fastest_L9] at hF
      refine lv_iload_n hx hb dX4_fastest_9 rfl (lv_at hl 1 rfl) ?_
      refine lv_bipush (v := 10) hx hb dX4_fastest_10 (by decide) ?_
      refine lv_icmp_gt (tgt := 35) hx hb dX4_fastest_12 (by decide) (fun c1 => ?_) (fun c1 => ?_)
      · rw [if_pos c1] at hR hF
        refine lv_iload_n hx hb dX4_fastest_35 rfl (lv_at hl 0 rfl) ?_
        subst hR
        exact krI hx hb hr hlk hP hD hS dX4_fastest_36 rfl rfl
      · rw [if_neg c1] at hR hF
        refine lv_aload_n hx hb dX4_fastest_15 rfl (lv_at hl 2 rfl) ?_
        refine lv_iload_n hx hb dX4_fastest_16 rfl (lv_at hl 1 rfl) ?_
        refine kcI (ci := 4) (q0 := 0) (As := [.int y2]) (rest := []) E.1 (cx4_spareOf E am (M.1 4 0) (M.1 4 1) (M.1 4 2) M.2 (M.1 0) y2) hX (cwV 1 hts gX4_fastest_X4_spareOf rfl rfl rfl hdX4_spareOf ⟨Nat.le_of_ble_eq_true rfl, Nat.le_of_ble_eq_true rfl⟩) hKs hK hP hD hS hA _ _ (md_mn cI am M) (md_mn cI am M).symm rfl rfl rfl rfl hl.1 (Nat.le_of_ble_eq_true rfl) dX4_fastest_17 ⟨Nat.zero_le _, Nat.zero_le _⟩ (fun H locs hP hD hS => ?_)
        generalize ev2 : fx4_spareOf (M.1 0) y2 = v2 at hR hF ⊢
        replace hR := bnd_e hR
        replace hF := bnd_p hF
        refine lv_if_le (tgt := 27) hx hb dX4_fastest_20 (by decide) (fun c3 => ?_) (fun c3 => ?_)
        · rw [if_pos c3] at hR hF
          refine lv_iload_n hx hb dX4_fastest_27 rfl (lv_at hl 0 rfl) ?_
          refine lv_istore_n (lv' := [(1, .int y1), (2, .int y2), (0, .ref (am 0))]) hx hb dX4_fastest_28 rfl hl (by decide) rfl (fun ls hl => ?_)
          refine lv_iinc (v := y2 + 1) (lv' := [(2, .int (y2 + 1)), (1, .int y1), (0, .ref (am 0))]) hx hb dX4_fastest_29 hl (k := 1) rfl rfl (by decide) rfl (fun ls hl => ?_)
          refine lv_goto (tgt := 9) hx hb dX4_fastest_32 (by decide) ?_
          exact ih9 y1 (y2 + 1) M _ _ ls hR hF hP hD hS (lv_sub hl [1, 0, 2] rfl)
        · rw [if_neg c3] at hR hF
          refine lv_iload_n hx hb dX4_fastest_23 rfl (lv_at hl 1 rfl) ?_
          refine lv_goto (tgt := 28) hx hb dX4_fastest_24 (by decide) ?_
          refine lv_istore_n (lv' := [(1, .int y2), (2, .int y2), (0, .ref (am 0))]) hx hb dX4_fastest_28 rfl hl (by decide) rfl (fun ls hl => ?_)
          refine lv_iinc (v := y2 + 1) (lv' := [(2, .int (y2 + 1)), (1, .int y2), (0, .ref (am 0))]) hx hb dX4_fastest_29 hl (k := 1) rfl rfl (by decide) rfl (fun ls hl => ?_)
          refine lv_goto (tgt := 9) hx hb dX4_fastest_32 (by decide) ?_
          exact ih9 y2 (y2 + 1) M _ _ ls hR hF hP hD hS (lv_sub hl [1, 0, 2] rfl)
  exact loop9 kfu (-1) 1 (sset M.1 4 1 0, M.2) _ _ ls hR hF hP hD hS (lv_sub hl [1, 0, 2] rfl)

theorem hdX4_fate : yX4_fate.cls = RX4 ∧ yX4_fate.cls ≠ "java/lang/invoke/MethodHandle" ∧ yX4_fate.cls ≠ "java/lang/invoke/VarHandle" ∧ (parseMethodDescriptor yX4_fate.desc).map (fun d => d.parameters.length) = some 1 := by decide +kernel
def fx4_fate_L69 : Nat → Int32 → Int32 → Md → Int32 × (Md)
  | 0, _, _, M => (0, M)
  | n69 + 1, y1, y2, M => (if 1000 ≤ y2 then (bnd (fx4_takesBack M) (fun M11 => ((M.1 0) 1201, M11))) else (if ((M.1 0) 1201) = 0 then (bnd (fx4_tickOn (M.1 0)) (fun M14 => fx4_fate_L69 n69 y1 (y2 + 1) (va_up M.1 0 M14, M.2))) else (bnd (fx4_takesBack M) (fun M16 => ((M.1 0) 1201, M16)))))
def sx4_fate_L69 : Nat → Int32 → Int32 → Md → Prop
  | 0, _, _, _ => False
  | n69 + 1, y1, y2, M => (if 1000 ≤ y2 then sx4_takesBack M else (if ((M.1 0) 1201) = 0 then (sx4_tickOn (M.1 0) ∧ (bnd (fx4_tickOn (M.1 0)) (fun M14 => sx4_fate_L69 n69 y1 (y2 + 1) (va_up M.1 0 M14, M.2)))) else sx4_takesBack M))
def fx4_fate_L69 : Nat → Int32 → Int32 → Md → Int32 × (Md)
  | 0, _, _, M => (0, M)
  | n69 + 1, y1, y2, M => (if 1000 ≤ y2 then (bnd (fx4_takesBack M) (fun M20 => ((M.1 0) 1201, M20))) else (if ((M.1 0) 1201) = 0 then (bnd (fx4_tickOn (M.1 0)) (fun M23 => fx4_fate_L69 n69 y1 (y2 + 1) (va_up M.1 0 M23, M.2))) else (bnd (fx4_takesBack M) (fun M25 => ((M.1 0) 1201, M25)))))
def sx4_fate_L69 : Nat → Int32 → Int32 → Md → Prop
  | 0, _, _, _ => False
  | n69 + 1, y1, y2, M => (if 1000 ≤ y2 then sx4_takesBack M else (if ((M.1 0) 1201) = 0 then (sx4_tickOn (M.1 0) ∧ (bnd (fx4_tickOn (M.1 0)) (fun M23 => sx4_fate_L69 n69 y1 (y2 + 1) (va_up M.1 0 M23, M.2)))) else sx4_takesBack M))
def fx4_fate_L69 : Nat → Int32 → Int32 → Md → Int32 × (Md)
  | 0, _, _, M => (0, M)
  | n69 + 1, y1, y2, M => (if 1000 ≤ y2 then (bnd (fx4_takesBack M) (fun M36 => ((M.1 0) 1201, M36))) else (if ((M.1 0) 1201) = 0 then (bnd (fx4_tickOn (M.1 0)) (fun M39 => fx4_fate_L69 n69 y1 (y2 + 1) (va_up M.1 0 M39, M.2))) else (bnd (fx4_takesBack M) (fun M41 => ((M.1 0) 1201, M41)))))
def sx4_fate_L69 : Nat → Int32 → Int32 → Md → Prop
  | 0, _, _, _ => False
  | n69 + 1, y1, y2, M => (if 1000 ≤ y2 then sx4_takesBack M else (if ((M.1 0) 1201) = 0 then (sx4_tickOn (M.1 0) ∧ (bnd (fx4_tickOn (M.1 0)) (fun M39 => sx4_fate_L69 n69 y1 (y2 + 1) (va_up M.1 0 M39, M.2)))) else sx4_takesBack M))
def fx4_fate_L69 : Nat → Int32 → Int32 → Md → Int32 × (Md)
  | 0, _, _, M => (0, M)
  | n69 + 1, y1, y2, M => (if 1000 ≤ y2 then (bnd (fx4_takesBack M) (fun M45 => ((M.1 0) 1201, M45))) else (if ((M.1 0) 1201) = 0 then (bnd (fx4_tickOn (M.1 0)) (fun M48 => fx4_fate_L69 n69 y1 (y2 + 1) (va_up M.1 0 M48, M.2))) else (bnd (fx4_takesBack M) (fun M50 => ((M.1 0) 1201, M50)))))
def sx4_fate_L69 : Nat → Int32 → Int32 → Md → Prop
  | 0, _, _, _ => False
  | n69 + 1, y1, y2, M => (if 1000 ≤ y2 then sx4_takesBack M else (if ((M.1 0) 1201) = 0 then (sx4_tickOn (M.1 0) ∧ (bnd (fx4_tickOn (M.1 0)) (fun M48 => sx4_fate_L69 n69 y1 (y2 + 1) (va_up M.1 0 M48, M.2)))) else sx4_takesBack M))
def fx4_fate (M : Md) (x1 : Int32) : Int32 × (Md) := (bnd (fx4_recordOf (M.1 0) x1) (fun v1 => (if v1 = (-1) then (bnd (fx4_refused M 1) (fun u3 => (if u3.1 = 0 then (bnd (fx4_laysAside u3.2) (fun M5 => (bnd (upd (M5.1 0) 1202 x1) (fun g6 => (bnd (upd g6 1201 0) (fun g7 => (if (g7 16) = 0 then (bnd (upd g7 15 1) (fun g9 => fx4_fate_L69 kfu x1 0 (va_up (va_up (va_up M5.1 0 g6) 0 g7) 0 g9, M5.2))) else (bnd (upd g7 15 0) (fun g18 => fx4_fate_L69 kfu x1 0 (va_up (va_up (va_up M5.1 0 g6) 0 g7) 0 g18, M5.2)))))))))) else (0, u3.2)))) else (bnd (fx4_refused M 0) (fun u28 => (if u28.1 = 0 then (bnd (fx4_laysAside u28.2) (fun M30 => (bnd (upd (M30.1 0) 1202 x1) (fun g31 => (bnd (upd g31 1201 0) (fun g32 => (if (g32 16) = 0 then (bnd (upd g32 15 1) (fun g34 => fx4_fate_L69 kfu x1 0 (va_up (va_up (va_up M30.1 0 g31) 0 g32) 0 g34, M30.2))) else (bnd (upd g32 15 0) (fun g43 => fx4_fate_L69 kfu x1 0 (va_up (va_up (va_up M30.1 0 g31) 0 g32) 0 g43, M30.2)))))))))) else (0, u28.2)))))))
def sx4_fate (M : Md) (x1 : Int32) : Prop := (sx4_recordOf (M.1 0) x1 ∧ (bnd (fx4_recordOf (M.1 0) x1) (fun v1 => (if v1 = (-1) then (bnd (fx4_refused M 1) (fun u3 => (if u3.1 = 0 then (sx4_laysAside u3.2 ∧ (bnd (fx4_laysAside u3.2) (fun M5 => (bnd (upd (M5.1 0) 1202 x1) (fun g6 => (bnd (upd g6 1201 0) (fun g7 => (if (g7 16) = 0 then (bnd (upd g7 15 1) (fun g9 => sx4_fate_L69 kfu x1 0 (va_up (va_up (va_up M5.1 0 g6) 0 g7) 0 g9, M5.2))) else (bnd (upd g7 15 0) (fun g18 => sx4_fate_L69 kfu x1 0 (va_up (va_up (va_up M5.1 0 g6) 0 g7) 0 g18, M5.2))))))))))) else True))) else (bnd (fx4_refused M 0) (fun u28 => (if u28.1 = 0 then (sx4_laysAside u28.2 ∧ (bnd (fx4_laysAside u28.2) (fun M30 => (bnd (upd (M30.1 0) 1202 x1) (fun g31 => (bnd (upd g31 1201 0) (fun g32 => (if (g32 16) = 0 then (bnd (upd g32 15 1) (fun g34 => sx4_fate_L69 kfu x1 0 (va_up (va_up (va_up M30.1 0 g31) 0 g32) 0 g34, M30.2))) else (bnd (upd g32 15 0) (fun g43 => sx4_fate_L69 kfu x1 0 (va_up (va_up (va_up M30.1 0 g31) 0 g32) 0 g43, M30.2))))))))))) else True)))))))
set_option maxHeartbeats 4000000 in
set_option maxRecDepth 100000 in
theorem cx4_fate {l : Launch} {D : va_G} {cI cB cS cJ : ClassId} {K : State → Prop} (E : kE D cI cB cS cJ K) (am : Nat → Nat) (M : Md) (x1 : Int32) (hF : sx4_fate M x1) : kI l D K yX4_fate wsX4_fate 6 136 [.ref (am 0), .int x1] (mdW cI am M) (fx4_fate M x1).1 (mdW cI am ((fx4_fate M x1).2)) := by
  refine kI_of (own := RX4) (cc := cX4_fate) (maxL := 3) (tys := kty cI cB cS cJ) (fun U h => (E.2 U h).1) (by decide) rfl rfl (Nat.le_of_ble_eq_true rfl) ?_
  intro p e s m below meth c A ls hx hb hr hml hts hown hlk hKs hK hP hD hA hS hl
  have hl : lv_has ls 3 [(0, .ref (am 0)), (1, .int x1)] := hl
  have hX : CallFix p m c cX4_fate 3 s _ wsX4_fate RX4 := ⟨hx, hb, hml, hown, hts⟩
  have hinX4 : ∀ w ∈ wsX40, w ∈ wsX4_fate := fun w h => List.mem_cons_of_mem _ (List.mem_append_right _ h)
  have q1 := hts (.fieldLink RX4 7 "LabelStationModel" "now" "[I") (List.mem_of_getElem? (i := 1) rfl)
  generalize hR : fx4_fate M x1 = R
  rw [fx4_fate] at hR
  rw [sx4_fate] at hF
  refine lv_aload_n hx hb dX4_fate_0 rfl (lv_at hl 0 rfl) ?_
  refine lv_aload_n hx hb dX4_fate_1 rfl (lv_at hl 0 rfl) ?_
  refine lv_iload_n hx hb dX4_fate_2 rfl (lv_at hl 1 rfl) ?_
  obtain ⟨hs53, hF⟩ := hF
  refine kcI (ci := 4) (q0 := 0) (As := [.int x1]) (rest := [.ref (am 0)]) E.1 (cx4_recordOf E am (M.1 4 0) (M.1 4 1) (M.1 4 2) M.2 (M.1 0) x1 hs53) hX (cwV 1 hts gX4_fate_X4_recordOf rfl rfl rfl hdX4_recordOf ⟨Nat.le_of_ble_eq_true rfl, Nat.le_of_ble_eq_true rfl⟩) hKs hK hP hD hS hA _ _ (md_mn cI am M) (md_mn cI am M).symm rfl rfl rfl rfl hl.1 (Nat.le_of_ble_eq_true rfl) dX4_fate_3 ⟨Nat.zero_le _, Nat.zero_le _⟩ (fun H locs hP hD hS => ?_)
  generalize ev1 : fx4_recordOf (M.1 0) x1 = v1 at hR hF ⊢
  replace hR := bnd_e hR
  replace hF := bnd_p hF
  refine lv_iconst (v := (-1)) hx hb dX4_fate_6 (by decide) ?_
  refine lv_icmp_ne (tgt := 14) hx hb dX4_fate_7 (by decide) (fun c2 => ?_) (fun c2 => ?_)
  · rw [if_neg c2] at hR hF
    refine lv_iconst (v := 0) hx hb dX4_fate_14 (by decide) ?_
    refine kcI (ci := 4) (q0 := 0) (As := [.int 0]) (rest := []) E.1 (cx4_refused E am M 0) hX (cwV 1 hts gX4_fate_X4_refused rfl rfl rfl hdX4_refused ⟨Nat.le_of_ble_eq_true rfl, Nat.le_of_ble_eq_true rfl⟩) hKs hK hP hD hS hA _ _ (kw_self _) (kw_self _).symm rfl rfl rfl rfl hl.1 (Nat.le_of_ble_eq_true rfl) dX4_fate_15 ⟨Nat.zero_le _, Nat.zero_le _⟩ (fun H locs hP hD hS => ?_)
    have hP : va_P D vwCl (mdW cI am ((fx4_refused M 0).2)) H := hP
    have hD : va_D A (mdW cI am ((fx4_refused M 0).2)) := hD
    generalize eu28 : fx4_refused M 0 = u28 at hR hF hP hD ⊢
    replace hR := bnd_e hR
    replace hF := bnd_p hF
    refine lv_if_eq (tgt := 23) hx hb dX4_fate_18 (by decide) (fun c29 => ?_) (fun c29 => ?_)
    · rw [if_pos c29] at hR hF
      refine lv_aload_n hx hb dX4_fate_23 rfl (lv_at hl 0 rfl) ?_
      obtain ⟨hs52, hF⟩ := hF
      refine kcV (ci := 4) (q0 := 0) (As := []) (rest := []) E.1 (cx4_laysAside E am u28.2 hs52) hX (cwV 0 hts gX4_fate_X4_laysAside rfl rfl rfl hdX4_laysAside ⟨Nat.le_of_ble_eq_true rfl, Nat.le_of_ble_eq_true rfl⟩) hKs hK hP hD hS hA _ _ (kw_self _) (kw_self _).symm rfl rfl rfl rfl hl.1 (Nat.le_of_ble_eq_true rfl) dX4_fate_24 ⟨Nat.zero_le _, Nat.zero_le _⟩ (fun H locs hP hD hS => ?_)
      have hP : va_P D vwCl (mdW cI am (fx4_laysAside u28.2)) H := hP
      have hD : va_D A (mdW cI am (fx4_laysAside u28.2)) := hD
      generalize eM30 : fx4_laysAside u28.2 = M30 at hR hF hP hD
      replace hR := bnd_e hR
      replace hF := bnd_p hF
      refine lv_aload_n hx hb dX4_fate_27 rfl (lv_at hl 0 rfl) ?_
      refine va_get (D := D) (ci := 4) (v := .ref (am 1)) (C := RX4) (T := TX4) (N := 8) hx hb hts hinX4 hown hK hP 0 rfl rfl 0 (by decide) q1 (fun _ h9 => h9) rfl dX4_fate_28 ?_
      refine lv_sipush (v := 1202) hx hb dX4_fate_31 (by decide) ?_
      refine lv_iload_n hx hb dX4_fate_34 rfl (lv_at hl 1 rfl) ?_
      refine va_iast hx hb hK hP hD hS 1 0 rfl rfl (kin_lit (j := 1202) (n := 1203) (by decide) (by decide)) dX4_fate_35 (fun H locs hP hD hS => ?_)
      have hP : va_P D vwCl (mdW cI am (va_up M30.1 0 (upd (M30.1 0) 1202 x1), M30.2)) H := hP
      have hD : va_D A (mdW cI am (va_up M30.1 0 (upd (M30.1 0) 1202 x1), M30.2)) := hD
      generalize eg31 : upd (M30.1 0) 1202 x1 = g31 at hR hP hD hF
      replace hR := bnd_e hR
      replace hF := bnd_p hF
      refine lv_aload_n hx hb dX4_fate_36 rfl (lv_at hl 0 rfl) ?_
      refine va_get (D := D) (ci := 4) (v := .ref (am 1)) (C := RX4) (T := TX4) (N := 8) hx hb hts hinX4 hown hK hP 0 rfl rfl 0 (by decide) q1 (fun _ h9 => h9) rfl dX4_fate_37 ?_
      refine lv_sipush (v := 1201) hx hb dX4_fate_40 (by decide) ?_
      refine lv_iconst (v := 0) hx hb dX4_fate_43 (by decide) ?_
      refine va_iast hx hb hK hP hD hS 1 0 rfl rfl (kin_lit (j := 1201) (n := 1203) (by decide) (by decide)) dX4_fate_44 (fun H locs hP hD hS => ?_)
      have hP : va_P D vwCl (mdW cI am (va_up (va_up M30.1 0 g31) 0 (upd g31 1201 0), M30.2)) H := hP
      have hD : va_D A (mdW cI am (va_up (va_up M30.1 0 g31) 0 (upd g31 1201 0), M30.2)) := hD
      generalize eg32 : upd g31 1201 0 = g32 at hR hP hD hF
      replace hR := bnd_e hR
      replace hF := bnd_p hF
      refine lv_aload_n hx hb dX4_fate_45 rfl (lv_at hl 0 rfl) ?_
      refine va_get (D := D) (ci := 4) (v := .ref (am 1)) (C := RX4) (T := TX4) (N := 8) hx hb hts hinX4 hown hK hP 0 rfl rfl 0 (by decide) q1 (fun _ h9 => h9) rfl dX4_fate_46 ?_
      refine lv_bipush (v := 15) hx hb dX4_fate_49 (by decide) ?_
      refine lv_aload_n hx hb dX4_fate_51 rfl (lv_at hl 0 rfl) ?_
      refine va_get (D := D) (ci := 4) (v := .ref (am 1)) (C := RX4) (T := TX4) (N := 8) hx hb hts hinX4 hown hK hP 0 rfl rfl 0 (by decide) q1 (fun _ h9 => h9) rfl dX4_fate_52 ?_
      refine lv_bipush (v := 16) hx hb dX4_fate_55 (by decide) ?_
      refine va_iald hx hb hK hP 1 0 rfl rfl (kin_lit (j := 16) (n := 1203) (by decide) (by decide)) dX4_fate_57 ?_
      refine kw_top (v := .int (g32 16)) rfl ?_
      refine lv_if_ne (tgt := 65) hx hb dX4_fate_58 (by decide) (fun c33 => ?_) (fun c33 => ?_)
      · rw [if_neg c33] at hR hF
        refine lv_iconst (v := 0) hx hb dX4_fate_65 (by decide) ?_
        refine va_iast hx hb hK hP hD hS 1 0 rfl rfl (kin_lit (j := 15) (n := 1203) (by decide) (by decide)) dX4_fate_66 (fun H locs hP hD hS => ?_)
        have hP : va_P D vwCl (mdW cI am (va_up (va_up (va_up M30.1 0 g31) 0 g32) 0 (upd g32 15 0), M30.2)) H := hP
        have hD : va_D A (mdW cI am (va_up (va_up (va_up M30.1 0 g31) 0 g32) 0 (upd g32 15 0), M30.2)) := hD
        generalize eg43 : upd g32 15 0 = g43 at hR hP hD hF
        replace hR := bnd_e hR
        replace hF := bnd_p hF
        refine lv_iconst (v := 0) hx hb dX4_fate_67 (by decide) ?_
        refine lv_istore_n (lv' := [(2, .int 0), (0, .ref (am 0)), (1, .int x1)]) hx hb dX4_fate_68 rfl hl (by decide) rfl (fun ls hl => ?_)
        have loop69 : ∀ (n69 : Nat) (y1 : Int32) (y2 : Int32) (M : Md) (H : Heap) (locs : List Loc) (ls : Array Slot), fx4_fate_L69 n69 y1 y2 M = R → sx4_fate_L69 n69 y1 y2 M → va_P D vwCl (mdW cI am M) H → va_D A (mdW cI am M) → va_S A s.heap H locs → lv_has ls 3 [(1, .int y1), (2, .int y2), (0, .ref (am 0))] → W p l e (kRm 6 136) s m ([.ref (am 0), .int x1] : List Value).toArray below meth c H locs 0 0 (kQI D below R.1 (mdW cI am R.2) A ([.ref (am 0), .int x1] : List Value).toArray s) (F0 m 69 ls []) := by
          intro n69
          induction n69 with
          | zero => intro y1 y2 M H locs ls hR hF; exact hF.elim
          | succ n69 ih69 =>
            intro y1 y2 M H locs ls hR hF hP hD hS hl
            rw [fx4_fate_L69] at hR
            rw [sx4_fate_L69] at hF
            refine lv_iload_n hx hb dX4_fate_69 rfl (lv_at hl 1 rfl) ?_
            refine lv_sipush (v := 1000) hx hb dX4_fate_70 (by decide) ?_
            refine lv_icmp_ge (tgt := 97) hx hb dX4_fate_73 (by decide) (fun c44 => ?_) (fun c44 => ?_)
            · rw [if_pos c44] at hR hF
              refine lv_aload_n hx hb dX4_fate_97 rfl (lv_at hl 2 rfl) ?_
              refine va_get (D := D) (ci := 4) (v := .ref (am 1)) (C := RX4) (T := TX4) (N := 8) hx hb hts hinX4 hown hK hP 0 rfl rfl 0 (by decide) q1 (fun _ h9 => h9) rfl dX4_fate_98 ?_
              refine lv_sipush (v := 1201) hx hb dX4_fate_101 (by decide) ?_
              refine va_iald hx hb hK hP 1 0 rfl rfl (kin_lit (j := 1201) (n := 1203) (by decide) (by decide)) dX4_fate_104 ?_
              refine kw_top (v := .int ((M.1 0) 1201)) rfl ?_
              refine lv_istore_n (lv' := [(2, .int ((M.1 0) 1201)), (1, .int y1), (0, .ref (am 0))]) hx hb dX4_fate_105 rfl hl (by decide) rfl (fun ls hl => ?_)
              refine lv_aload_n hx hb dX4_fate_106 rfl (lv_at hl 2 rfl) ?_
              have hs46 := hF
              refine kcV (ci := 4) (q0 := 0) (As := []) (rest := []) E.1 (cx4_takesBack E am M hs46) hX (cwV 0 hts gX4_fate_X4_takesBack rfl rfl rfl hdX4_takesBack ⟨Nat.le_of_ble_eq_true rfl, Nat.le_of_ble_eq_true rfl⟩) hKs hK hP hD hS hA _ _ (kw_self _) (kw_self _).symm rfl rfl rfl rfl hl.1 (Nat.le_of_ble_eq_true rfl) dX4_fate_107 ⟨Nat.zero_le _, Nat.zero_le _⟩ (fun H locs hP hD hS => ?_)
              have hP : va_P D vwCl (mdW cI am (fx4_takesBack M)) H := hP
              have hD : va_D A (mdW cI am (fx4_takesBack M)) := hD
              generalize eM45 : fx4_takesBack M = M45 at hR hP hD
              replace hR := bnd_e hR
              refine lv_iload_n hx hb dX4_fate_110 rfl (lv_at hl 0 rfl) ?_
              subst hR
              exact krI hx hb hr hlk hP hD hS dX4_fate_111 rfl rfl
            · rw [if_neg c44] at hR hF
              refine lv_aload_n hx hb dX4_fate_76 rfl (lv_at hl 2 rfl) ?_
              refine va_get (D := D) (ci := 4) (v := .ref (am 1)) (C := RX4) (T := TX4) (N := 8) hx hb hts hinX4 hown hK hP 0 rfl rfl 0 (by decide) q1 (fun _ h9 => h9) rfl dX4_fate_77 ?_
              refine lv_sipush (v := 1201) hx hb dX4_fate_80 (by decide) ?_
              refine va_iald hx hb hK hP 1 0 rfl rfl (kin_lit (j := 1201) (n := 1203) (by decide) (by decide)) dX4_fate_83 ?_
              refine kw_top (v := .int ((M.1 0) 1201)) rfl ?_
              refine lv_if_ne (tgt := 97) hx hb dX4_fate_84 (by decide) (fun c47 => ?_) (fun c47 => ?_)
              · rw [if_neg c47] at hR hF
                refine lv_aload_n hx hb dX4_fate_97 rfl (lv_at hl 2 rfl) ?_
                refine va_get (D := D) (ci := 4) (v := .ref (am 1)) (C := RX4) (T := TX4) (N := 8) hx hb hts hinX4 hown hK hP 0 rfl rfl 0 (by decide) q1 (fun _ h9 => h9) rfl dX4_fate_98 ?_
                refine lv_sipush (v := 1201) hx hb dX4_fate_101 (by decide) ?_
                refine va_iald hx hb hK hP 1 0 rfl rfl (kin_lit (j := 1201) (n := 1203) (by decide) (by decide)) dX4_fate_104 ?_
                refine kw_top (v := .int ((M.1 0) 1201)) rfl ?_
                refine lv_istore_n (lv' := [(2, .int ((M.1 0) 1201)), (1, .int y1), (0, .ref (am 0))]) hx hb dX4_fate_105 rfl hl (by decide) rfl (fun ls hl => ?_)
                refine lv_aload_n hx hb dX4_fate_106 rfl (lv_at hl 2 rfl) ?_
                have hs51 := hF
                refine kcV (ci := 4) (q0 := 0) (As := []) (rest := []) E.1 (cx4_takesBack E am M hs51) hX (cwV 0 hts gX4_fate_X4_takesBack rfl rfl rfl hdX4_takesBack ⟨Nat.le_of_ble_eq_true rfl, Nat.le_of_ble_eq_true rfl⟩) hKs hK hP hD hS hA _ _ (kw_self _) (kw_self _).symm rfl rfl rfl rfl hl.1 (Nat.le_of_ble_eq_true rfl) dX4_fate_107 ⟨Nat.zero_le _, Nat.zero_le _⟩ (fun H locs hP hD hS => ?_)
                have hP : va_P D vwCl (mdW cI am (fx4_takesBack M)) H := hP
                have hD : va_D A (mdW cI am (fx4_takesBack M)) := hD
                generalize eM50 : fx4_takesBack M = M50 at hR hP hD
                replace hR := bnd_e hR
                refine lv_iload_n hx hb dX4_fate_110 rfl (lv_at hl 0 rfl) ?_
                subst hR
                exact krI hx hb hr hlk hP hD hS dX4_fate_111 rfl rfl
              · rw [if_pos c47] at hR hF
                refine lv_aload_n hx hb dX4_fate_87 rfl (lv_at hl 2 rfl) ?_
                obtain ⟨hs49, hF⟩ := hF
                refine kcV (ci := 4) (q0 := 0) (As := []) (rest := []) E.1 (cx4_tickOn E am (M.1 4 0) (M.1 4 1) (M.1 4 2) M.2 (M.1 0) hs49) hX (cwV 0 hts gX4_fate_X4_tickOn rfl rfl rfl hdX4_tickOn ⟨Nat.le_of_ble_eq_true rfl, Nat.le_of_ble_eq_true rfl⟩) hKs hK hP hD hS hA _ _ (md_mn cI am M) (md_mn' cI am M _) rfl rfl rfl rfl hl.1 (Nat.le_of_ble_eq_true rfl) dX4_fate_88 ⟨Nat.zero_le _, Nat.zero_le _⟩ (fun H locs hP hD hS => ?_)
                have hP : va_P D vwCl (mdW cI am (va_up M.1 0 (fx4_tickOn (M.1 0)), M.2)) H := hP
                have hD : va_D A (mdW cI am (va_up M.1 0 (fx4_tickOn (M.1 0)), M.2)) := hD
                generalize eM48 : fx4_tickOn (M.1 0) = M48 at hR hF hP hD
                replace hR := bnd_e hR
                replace hF := bnd_p hF
                refine lv_iinc (v := y2 + 1) (lv' := [(2, .int (y2 + 1)), (1, .int y1), (0, .ref (am 0))]) hx hb dX4_fate_91 hl (k := 1) rfl rfl (by decide) rfl (fun ls hl => ?_)
                refine lv_goto (tgt := 69) hx hb dX4_fate_94 (by decide) ?_
                exact ih69 y1 (y2 + 1) (va_up M.1 0 M48, M.2) _ _ ls hR hF hP hD hS (lv_sub hl [1, 0, 2] rfl)
        exact loop69 kfu x1 0 (va_up (va_up (va_up M30.1 0 g31) 0 g32) 0 g43, M30.2) _ _ ls hR hF hP hD hS (lv_sub hl [2, 0, 1] rfl)
      · rw [if_pos c33] at hR hF
        refine lv_iconst (v := 1) hx hb dX4_fate_61 (by decide) ?_
        refine lv_goto (tgt := 66) hx hb dX4_fate_62 (by decide) ?_
        refine va_iast hx hb hK hP hD hS 1 0 rfl rfl (kin_lit (j := 15) (n := 1203) (by decide) (by decide)) dX4_fate_66 (fun H locs hP hD hS => ?_)
        have hP : va_P D vwCl (mdW cI am (va_up (va_up (va_up M30.1 0 g31) 0 g32) 0 (upd g32 15 1), M30.2)) H := hP
        have hD : va_D A (mdW cI am (va_up (va_up (va_up M30.1 0 g31) 0 g32) 0 (upd g32 15 1), M30.2)) := hD
        generalize eg34 : upd g32 15 1 = g34 at hR hP hD hF
        replace hR := bnd_e hR
        replace hF := bnd_p hF
        refine lv_iconst (v := 0) hx hb dX4_fate_67 (by decide) ?_
        refine lv_istore_n (lv' := [(2, .int 0), (0, .ref (am 0)), (1, .int x1)]) hx hb dX4_fate_68 rfl hl (by decide) rfl (fun ls hl => ?_)
        have loop69 : ∀ (n69 : Nat) (y1 : Int32) (y2 : Int32) (M : Md) (H : Heap) (locs : List Loc) (ls : Array Slot), fx4_fate_L69 n69 y1 y2 M = R → sx4_fate_L69 n69 y1 y2 M → va_P D vwCl (mdW cI am M) H → va_D A (mdW cI am M) → va_S A s.heap H locs → lv_has ls 3 [(1, .int y1), (2, .int y2), (0, .ref (am 0))] → W p l e (kRm 6 136) s m ([.ref (am 0), .int x1] : List Value).toArray below meth c H locs 0 0 (kQI D below R.1 (mdW cI am R.2) A ([.ref (am 0), .int x1] : List Value).toArray s) (F0 m 69 ls []) := by
          intro n69
          induction n69 with
          | zero => intro y1 y2 M H locs ls hR hF; exact hF.elim
          | succ n69 ih69 =>
            intro y1 y2 M H locs ls hR hF hP hD hS hl
            rw [fx4_fate_L69] at hR
            rw [sx4_fate_L69] at hF
            refine lv_iload_n hx hb dX4_fate_69 rfl (lv_at hl 1 rfl) ?_
            refine lv_sipush (v := 1000) hx hb dX4_fate_70 (by decide) ?_
            refine lv_icmp_ge (tgt := 97) hx hb dX4_fate_73 (by decide) (fun c35 => ?_) (fun c35 => ?_)
            · rw [if_pos c35] at hR hF
              refine lv_aload_n hx hb dX4_fate_97 rfl (lv_at hl 2 rfl) ?_
              refine va_get (D := D) (ci := 4) (v := .ref (am 1)) (C := RX4) (T := TX4) (N := 8) hx hb hts hinX4 hown hK hP 0 rfl rfl 0 (by decide) q1 (fun _ h9 => h9) rfl dX4_fate_98 ?_
              refine lv_sipush (v := 1201) hx hb dX4_fate_101 (by decide) ?_
              refine va_iald hx hb hK hP 1 0 rfl rfl (kin_lit (j := 1201) (n := 1203) (by decide) (by decide)) dX4_fate_104 ?_
              refine kw_top (v := .int ((M.1 0) 1201)) rfl ?_
              refine lv_istore_n (lv' := [(2, .int ((M.1 0) 1201)), (1, .int y1), (0, .ref (am 0))]) hx hb dX4_fate_105 rfl hl (by decide) rfl (fun ls hl => ?_)
              refine lv_aload_n hx hb dX4_fate_106 rfl (lv_at hl 2 rfl) ?_
              have hs37 := hF
              refine kcV (ci := 4) (q0 := 0) (As := []) (rest := []) E.1 (cx4_takesBack E am M hs37) hX (cwV 0 hts gX4_fate_X4_takesBack rfl rfl rfl hdX4_takesBack ⟨Nat.le_of_ble_eq_true rfl, Nat.le_of_ble_eq_true rfl⟩) hKs hK hP hD hS hA _ _ (kw_self _) (kw_self _).symm rfl rfl rfl rfl hl.1 (Nat.le_of_ble_eq_true rfl) dX4_fate_107 ⟨Nat.zero_le _, Nat.zero_le _⟩ (fun H locs hP hD hS => ?_)
              have hP : va_P D vwCl (mdW cI am (fx4_takesBack M)) H := hP
              have hD : va_D A (mdW cI am (fx4_takesBack M)) := hD
              generalize eM36 : fx4_takesBack M = M36 at hR hP hD
              replace hR := bnd_e hR
              refine lv_iload_n hx hb dX4_fate_110 rfl (lv_at hl 0 rfl) ?_
              subst hR
              exact krI hx hb hr hlk hP hD hS dX4_fate_111 rfl rfl
            · rw [if_neg c35] at hR hF
              refine lv_aload_n hx hb dX4_fate_76 rfl (lv_at hl 2 rfl) ?_
              refine va_get (D := D) (ci := 4) (v := .ref (am 1)) (C := RX4) (T := TX4) (N := 8) hx hb hts hinX4 hown hK hP 0 rfl rfl 0 (by decide) q1 (fun _ h9 => h9) rfl dX4_fate_77 ?_
              refine lv_sipush (v := 1201) hx hb dX4_fate_80 (by decide) ?_
              refine va_iald hx hb hK hP 1 0 rfl rfl (kin_lit (j := 1201) (n := 1203) (by decide) (by decide)) dX4_fate_83 ?_
              refine kw_top (v := .int ((M.1 0) 1201)) rfl ?_
              refine lv_if_ne (tgt := 97) hx hb dX4_fate_84 (by decide) (fun c38 => ?_) (fun c38 => ?_)
              · rw [if_neg c38] at hR hF
                refine lv_aload_n hx hb dX4_fate_97 rfl (lv_at hl 2 rfl) ?_
                refine va_get (D := D) (ci := 4) (v := .ref (am 1)) (C := RX4) (T := TX4) (N := 8) hx hb hts hinX4 hown hK hP 0 rfl rfl 0 (by decide) q1 (fun _ h9 => h9) rfl dX4_fate_98 ?_
                refine lv_sipush (v := 1201) hx hb dX4_fate_101 (by decide) ?_
                refine va_iald hx hb hK hP 1 0 rfl rfl (kin_lit (j := 1201) (n := 1203) (by decide) (by decide)) dX4_fate_104 ?_
                refine kw_top (v := .int ((M.1 0) 1201)) rfl ?_
                refine lv_istore_n (lv' := [(2, .int ((M.1 0) 1201)), (1, .int y1), (0, .ref (am 0))]) hx hb dX4_fate_105 rfl hl (by decide) rfl (fun ls hl => ?_)
                refine lv_aload_n hx hb dX4_fate_106 rfl (lv_at hl 2 rfl) ?_
                have hs42 := hF
                refine kcV (ci := 4) (q0 := 0) (As := []) (rest := []) E.1 (cx4_takesBack E am M hs42) hX (cwV 0 hts gX4_fate_X4_takesBack rfl rfl rfl hdX4_takesBack ⟨Nat.le_of_ble_eq_true rfl, Nat.le_of_ble_eq_true rfl⟩) hKs hK hP hD hS hA _ _ (kw_self _) (kw_self _).symm rfl rfl rfl rfl hl.1 (Nat.le_of_ble_eq_true rfl) dX4_fate_107 ⟨Nat.zero_le _, Nat.zero_le _⟩ (fun H locs hP hD hS => ?_)
                have hP : va_P D vwCl (mdW cI am (fx4_takesBack M)) H := hP
                have hD : va_D A (mdW cI am (fx4_takesBack M)) := hD
                generalize eM41 : fx4_takesBack M = M41 at hR hP hD
                replace hR := bnd_e hR
                refine lv_iload_n hx hb dX4_fate_110 rfl (lv_at hl 0 rfl) ?_
                subst hR
                exact krI hx hb hr hlk hP hD hS dX4_fate_111 rfl rfl
              · rw [if_pos c38] at hR hF
                refine lv_aload_n hx hb dX4_fate_87 rfl (lv_at hl 2 rfl) ?_
                obtain ⟨hs40, hF⟩ := hF
                refine kcV (ci := 4) (q0 := 0) (As := []) (rest := []) E.1 (cx4_tickOn E am (M.1 4 0) (M.1 4 1) (M.1 4 2) M.2 (M.1 0) hs40) hX (cwV 0 hts gX4_fate_X4_tickOn rfl rfl rfl hdX4_tickOn ⟨Nat.le_of_ble_eq_true rfl, Nat.le_of_ble_eq_true rfl⟩) hKs hK hP hD hS hA _ _ (md_mn cI am M) (md_mn' cI am M _) rfl rfl rfl rfl hl.1 (Nat.le_of_ble_eq_true rfl) dX4_fate_88 ⟨Nat.zero_le _, Nat.zero_le _⟩ (fun H locs hP hD hS => ?_)
                have hP : va_P D vwCl (mdW cI am (va_up M.1 0 (fx4_tickOn (M.1 0)), M.2)) H := hP
                have hD : va_D A (mdW cI am (va_up M.1 0 (fx4_tickOn (M.1 0)), M.2)) := hD
                generalize eM39 : fx4_tickOn (M.1 0) = M39 at hR hF hP hD
                replace hR := bnd_e hR
                replace hF := bnd_p hF
                refine lv_iinc (v := y2 + 1) (lv' := [(2, .int (y2 + 1)), (1, .int y1), (0, .ref (am 0))]) hx hb dX4_fate_91 hl (k := 1) rfl rfl (by decide) rfl (fun ls hl => ?_)
                refine lv_goto (tgt := 69) hx hb dX4_fate_94 (by decide) ?_
                exact ih69 y1 (y2 + 1) (va_up M.1 0 M39, M.2) _ _ ls hR hF hP hD hS (lv_sub hl [1, 0, 2] rfl)
        exact loop69 kfu x1 0 (va_up (va_up (va_up M30.1 0 g31) 0 g32) 0 g34, M30.2) _ _ ls hR hF hP hD hS (lv_sub hl [2, 0, 1] rfl)
    · rw [if_neg c29] at hR hF
      refine lv_iconst (v := 0) hx hb dX4_fate_21 (by decide) ?_
      subst hR
      exact krI hx hb hr hlk hP hD hS dX4_fate_22 rfl rfl
  · rw [if_pos c2] at hR hF
    refine lv_iconst (v := 1) hx hb dX4_fate_10 (by decide) ?_
    refine lv_goto (tgt := 15) hx hb dX4_fate_11 (by decide) ?_
    refine kcI (ci := 4) (q0 := 0) (As := [.int 1]) (rest := []) E.1 (cx4_refused E am M 1) hX (cwV 1 hts gX4_fate_X4_refused rfl rfl rfl hdX4_refused ⟨Nat.le_of_ble_eq_true rfl, Nat.le_of_ble_eq_true rfl⟩) hKs hK hP hD hS hA _ _ (kw_self _) (kw_self _).symm rfl rfl rfl rfl hl.1 (Nat.le_of_ble_eq_true rfl) dX4_fate_15 ⟨Nat.zero_le _, Nat.zero_le _⟩ (fun H locs hP hD hS => ?_)
    have hP : va_P D vwCl (mdW cI am ((fx4_refused M 1).2)) H := hP
    have hD : va_D A (mdW cI am ((fx4_refused M 1).2)) := hD
    generalize eu3 : fx4_refused M 1 = u3 at hR hF hP hD ⊢
    replace hR := bnd_e hR
    replace hF := bnd_p hF
    refine lv_if_eq (tgt := 23) hx hb dX4_fate_18 (by decide) (fun c4 => ?_) (fun c4 => ?_)
    · rw [if_pos c4] at hR hF
      refine lv_aload_n hx hb dX4_fate_23 rfl (lv_at hl 0 rfl) ?_
      obtain ⟨hs27, hF⟩ := hF
      refine kcV (ci := 4) (q0 := 0) (As := []) (rest := []) E.1 (cx4_laysAside E am u3.2 hs27) hX (cwV 0 hts gX4_fate_X4_laysAside rfl rfl rfl hdX4_laysAside ⟨Nat.le_of_ble_eq_true rfl, Nat.le_of_ble_eq_true rfl⟩) hKs hK hP hD hS hA _ _ (kw_self _) (kw_self _).symm rfl rfl rfl rfl hl.1 (Nat.le_of_ble_eq_true rfl) dX4_fate_24 ⟨Nat.zero_le _, Nat.zero_le _⟩ (fun H locs hP hD hS => ?_)
      have hP : va_P D vwCl (mdW cI am (fx4_laysAside u3.2)) H := hP
      have hD : va_D A (mdW cI am (fx4_laysAside u3.2)) := hD
      generalize eM5 : fx4_laysAside u3.2 = M5 at hR hF hP hD
      replace hR := bnd_e hR
      replace hF := bnd_p hF
      refine lv_aload_n hx hb dX4_fate_27 rfl (lv_at hl 0 rfl) ?_
      refine va_get (D := D) (ci := 4) (v := .ref (am 1)) (C := RX4) (T := TX4) (N := 8) hx hb hts hinX4 hown hK hP 0 rfl rfl 0 (by decide) q1 (fun _ h9 => h9) rfl dX4_fate_28 ?_
      refine lv_sipush (v := 1202) hx hb dX4_fate_31 (by decide) ?_
      refine lv_iload_n hx hb dX4_fate_34 rfl (lv_at hl 1 rfl) ?_
      refine va_iast hx hb hK hP hD hS 1 0 rfl rfl (kin_lit (j := 1202) (n := 1203) (by decide) (by decide)) dX4_fate_35 (fun H locs hP hD hS => ?_)
      have hP : va_P D vwCl (mdW cI am (va_up M5.1 0 (upd (M5.1 0) 1202 x1), M5.2)) H := hP
      have hD : va_D A (mdW cI am (va_up M5.1 0 (upd (M5.1 0) 1202 x1), M5.2)) := hD
      generalize eg6 : upd (M5.1 0) 1202 x1 = g6 at hR hP hD hF
      replace hR := bnd_e hR
      replace hF := bnd_p hF
      refine lv_aload_n hx hb dX4_fate_36 rfl (lv_at hl 0 rfl) ?_
      refine va_get (D := D) (ci := 4) (v := .ref (am 1)) (C := RX4) (T := TX4) (N := 8) hx hb hts hinX4 hown hK hP 0 rfl rfl 0 (by decide) q1 (fun _ h9 => h9) rfl dX4_fate_37 ?_
      refine lv_sipush (v := 1201) hx hb dX4_fate_40 (by decide) ?_
      refine lv_iconst (v := 0) hx hb dX4_fate_43 (by decide) ?_
      refine va_iast hx hb hK hP hD hS 1 0 rfl rfl (kin_lit (j := 1201) (n := 1203) (by decide) (by decide)) dX4_fate_44 (fun H locs hP hD hS => ?_)
      have hP : va_P D vwCl (mdW cI am (va_up (va_up M5.1 0 g6) 0 (upd g6 1201 0), M5.2)) H := hP
      have hD : va_D A (mdW cI am (va_up (va_up M5.1 0 g6) 0 (upd g6 1201 0), M5.2)) := hD
      generalize eg7 : upd g6 1201 0 = g7 at hR hP hD hF
      replace hR := bnd_e hR
      replace hF := bnd_p hF
      refine lv_aload_n hx hb dX4_fate_45 rfl (lv_at hl 0 rfl) ?_
      refine va_get (D := D) (ci := 4) (v := .ref (am 1)) (C := RX4) (T := TX4) (N := 8) hx hb hts hinX4 hown hK hP 0 rfl rfl 0 (by decide) q1 (fun _ h9 => h9) rfl dX4_fate_46 ?_
      refine lv_bipush (v := 15) hx hb dX4_fate_49 (by decide) ?_
      refine lv_aload_n hx hb dX4_fate_51 rfl (lv_at hl 0 rfl) ?_
      refine va_get (D := D) (ci := 4) (v := .ref (am 1)) (C := RX4) (T := TX4) (N := 8) hx hb hts hinX4 hown hK hP 0 rfl rfl 0 (by decide) q1 (fun _ h9 => h9) rfl dX4_fate_52 ?_
      refine lv_bipush (v := 16) hx hb dX4_fate_55 (by decide) ?_
      refine va_iald hx hb hK hP 1 0 rfl rfl (kin_lit (j := 16) (n := 1203) (by decide) (by decide)) dX4_fate_57 ?_
      refine kw_top (v := .int (g7 16)) rfl ?_
      refine lv_if_ne (tgt := 65) hx hb dX4_fate_58 (by decide) (fun c8 => ?_) (fun c8 => ?_)
      · rw [if_neg c8] at hR hF
        refine lv_iconst (v := 0) hx hb dX4_fate_65 (by decide) ?_
        refine va_iast hx hb hK hP hD hS 1 0 rfl rfl (kin_lit (j := 15) (n := 1203) (by decide) (by decide)) dX4_fate_66 (fun H locs hP hD hS => ?_)
        have hP : va_P D vwCl (mdW cI am (va_up (va_up (va_up M5.1 0 g6) 0 g7) 0 (upd g7 15 0), M5.2)) H := hP
        have hD : va_D A (mdW cI am (va_up (va_up (va_up M5.1 0 g6) 0 g7) 0 (upd g7 15 0), M5.2)) := hD
        generalize eg18 : upd g7 15 0 = g18 at hR hP hD hF
        replace hR := bnd_e hR
        replace hF := bnd_p hF
        refine lv_iconst (v := 0) hx hb dX4_fate_67 (by decide) ?_
        refine lv_istore_n (lv' := [(2, .int 0), (0, .ref (am 0)), (1, .int x1)]) hx hb dX4_fate_68 rfl hl (by decide) rfl (fun ls hl => ?_)
        have loop69 : ∀ (n69 : Nat) (y1 : Int32) (y2 : Int32) (M : Md) (H : Heap) (locs : List Loc) (ls : Array Slot), fx4_fate_L69 n69 y1 y2 M = R → sx4_fate_L69 n69 y1 y2 M → va_P D vwCl (mdW cI am M) H → va_D A (mdW cI am M) → va_S A s.heap H locs → lv_has ls 3 [(1, .int y1), (2, .int y2), (0, .ref (am 0))] → W p l e (kRm 6 136) s m ([.ref (am 0), .int x1] : List Value).toArray below meth c H locs 0 0 (kQI D below R.1 (mdW cI am R.2) A ([.ref (am 0), .int x1] : List Value).toArray s) (F0 m 69 ls []) := by
          intro n69
          induction n69 with
          | zero => intro y1 y2 M H locs ls hR hF; exact hF.elim
          | succ n69 ih69 =>
            intro y1 y2 M H locs ls hR hF hP hD hS hl
            rw [fx4_fate_L69] at hR
            rw [sx4_fate_L69] at hF
            refine lv_iload_n hx hb dX4_fate_69 rfl (lv_at hl 1 rfl) ?_
            refine lv_sipush (v := 1000) hx hb dX4_fate_70 (by decide) ?_
            refine lv_icmp_ge (tgt := 97) hx hb dX4_fate_73 (by decide) (fun c19 => ?_) (fun c19 => ?_)
            · rw [if_pos c19] at hR hF
              refine lv_aload_n hx hb dX4_fate_97 rfl (lv_at hl 2 rfl) ?_
              refine va_get (D := D) (ci := 4) (v := .ref (am 1)) (C := RX4) (T := TX4) (N := 8) hx hb hts hinX4 hown hK hP 0 rfl rfl 0 (by decide) q1 (fun _ h9 => h9) rfl dX4_fate_98 ?_
              refine lv_sipush (v := 1201) hx hb dX4_fate_101 (by decide) ?_
              refine va_iald hx hb hK hP 1 0 rfl rfl (kin_lit (j := 1201) (n := 1203) (by decide) (by decide)) dX4_fate_104 ?_
              refine kw_top (v := .int ((M.1 0) 1201)) rfl ?_
              refine lv_istore_n (lv' := [(2, .int ((M.1 0) 1201)), (1, .int y1), (0, .ref (am 0))]) hx hb dX4_fate_105 rfl hl (by decide) rfl (fun ls hl => ?_)
              refine lv_aload_n hx hb dX4_fate_106 rfl (lv_at hl 2 rfl) ?_
              have hs21 := hF
              refine kcV (ci := 4) (q0 := 0) (As := []) (rest := []) E.1 (cx4_takesBack E am M hs21) hX (cwV 0 hts gX4_fate_X4_takesBack rfl rfl rfl hdX4_takesBack ⟨Nat.le_of_ble_eq_true rfl, Nat.le_of_ble_eq_true rfl⟩) hKs hK hP hD hS hA _ _ (kw_self _) (kw_self _).symm rfl rfl rfl rfl hl.1 (Nat.le_of_ble_eq_true rfl) dX4_fate_107 ⟨Nat.zero_le _, Nat.zero_le _⟩ (fun H locs hP hD hS => ?_)
              have hP : va_P D vwCl (mdW cI am (fx4_takesBack M)) H := hP
              have hD : va_D A (mdW cI am (fx4_takesBack M)) := hD
              generalize eM20 : fx4_takesBack M = M20 at hR hP hD
              replace hR := bnd_e hR
              refine lv_iload_n hx hb dX4_fate_110 rfl (lv_at hl 0 rfl) ?_
              subst hR
              exact krI hx hb hr hlk hP hD hS dX4_fate_111 rfl rfl
            · rw [if_neg c19] at hR hF
              refine lv_aload_n hx hb dX4_fate_76 rfl (lv_at hl 2 rfl) ?_
              refine va_get (D := D) (ci := 4) (v := .ref (am 1)) (C := RX4) (T := TX4) (N := 8) hx hb hts hinX4 hown hK hP 0 rfl rfl 0 (by decide) q1 (fun _ h9 => h9) rfl dX4_fate_77 ?_
              refine lv_sipush (v := 1201) hx hb dX4_fate_80 (by decide) ?_
              refine va_iald hx hb hK hP 1 0 rfl rfl (kin_lit (j := 1201) (n := 1203) (by decide) (by decide)) dX4_fate_83 ?_
              refine kw_top (v := .int ((M.1 0) 1201)) rfl ?_
              refine lv_if_ne (tgt := 97) hx hb dX4_fate_84 (by decide) (fun c22 => ?_) (fun c22 => ?_)
              · rw [if_neg c22] at hR hF
                refine lv_aload_n hx hb dX4_fate_97 rfl (lv_at hl 2 rfl) ?_
                refine va_get (D := D) (ci := 4) (v := .ref (am 1)) (C := RX4) (T := TX4) (N := 8) hx hb hts hinX4 hown hK hP 0 rfl rfl 0 (by decide) q1 (fun _ h9 => h9) rfl dX4_fate_98 ?_
                refine lv_sipush (v := 1201) hx hb dX4_fate_101 (by decide) ?_
                refine va_iald hx hb hK hP 1 0 rfl rfl (kin_lit (j := 1201) (n := 1203) (by decide) (by decide)) dX4_fate_104 ?_
                refine kw_top (v := .int ((M.1 0) 1201)) rfl ?_
                refine lv_istore_n (lv' := [(2, .int ((M.1 0) 1201)), (1, .int y1), (0, .ref (am 0))]) hx hb dX4_fate_105 rfl hl (by decide) rfl (fun ls hl => ?_)
                refine lv_aload_n hx hb dX4_fate_106 rfl (lv_at hl 2 rfl) ?_
                have hs26 := hF
                refine kcV (ci := 4) (q0 := 0) (As := []) (rest := []) E.1 (cx4_takesBack E am M hs26) hX (cwV 0 hts gX4_fate_X4_takesBack rfl rfl rfl hdX4_takesBack ⟨Nat.le_of_ble_eq_true rfl, Nat.le_of_ble_eq_true rfl⟩) hKs hK hP hD hS hA _ _ (kw_self _) (kw_self _).symm rfl rfl rfl rfl hl.1 (Nat.le_of_ble_eq_true rfl) dX4_fate_107 ⟨Nat.zero_le _, Nat.zero_le _⟩ (fun H locs hP hD hS => ?_)
                have hP : va_P D vwCl (mdW cI am (fx4_takesBack M)) H := hP
                have hD : va_D A (mdW cI am (fx4_takesBack M)) := hD
                generalize eM25 : fx4_takesBack M = M25 at hR hP hD
                replace hR := bnd_e hR
                refine lv_iload_n hx hb dX4_fate_110 rfl (lv_at hl 0 rfl) ?_
                subst hR
                exact krI hx hb hr hlk hP hD hS dX4_fate_111 rfl rfl
              · rw [if_pos c22] at hR hF
                refine lv_aload_n hx hb dX4_fate_87 rfl (lv_at hl 2 rfl) ?_
                obtain ⟨hs24, hF⟩ := hF
                refine kcV (ci := 4) (q0 := 0) (As := []) (rest := []) E.1 (cx4_tickOn E am (M.1 4 0) (M.1 4 1) (M.1 4 2) M.2 (M.1 0) hs24) hX (cwV 0 hts gX4_fate_X4_tickOn rfl rfl rfl hdX4_tickOn ⟨Nat.le_of_ble_eq_true rfl, Nat.le_of_ble_eq_true rfl⟩) hKs hK hP hD hS hA _ _ (md_mn cI am M) (md_mn' cI am M _) rfl rfl rfl rfl hl.1 (Nat.le_of_ble_eq_true rfl) dX4_fate_88 ⟨Nat.zero_le _, Nat.zero_le _⟩ (fun H locs hP hD hS => ?_)
                have hP : va_P D vwCl (mdW cI am (va_up M.1 0 (fx4_tickOn (M.1 0)), M.2)) H := hP
                have hD : va_D A (mdW cI am (va_up M.1 0 (fx4_tickOn (M.1 0)), M.2)) := hD
                generalize eM23 : fx4_tickOn (M.1 0) = M23 at hR hF hP hD
                replace hR := bnd_e hR
                replace hF := bnd_p hF
                refine lv_iinc (v := y2 + 1) (lv' := [(2, .int (y2 + 1)), (1, .int y1), (0, .ref (am 0))]) hx hb dX4_fate_91 hl (k := 1) rfl rfl (by decide) rfl (fun ls hl => ?_)
                refine lv_goto (tgt := 69) hx hb dX4_fate_94 (by decide) ?_
                exact ih69 y1 (y2 + 1) (va_up M.1 0 M23, M.2) _ _ ls hR hF hP hD hS (lv_sub hl [1, 0, 2] rfl)
        exact loop69 kfu x1 0 (va_up (va_up (va_up M5.1 0 g6) 0 g7) 0 g18, M5.2) _ _ ls hR hF hP hD hS (lv_sub hl [2, 0, 1] rfl)
      · rw [if_pos c8] at hR hF
        refine lv_iconst (v := 1) hx hb dX4_fate_61 (by decide) ?_
        refine lv_goto (tgt := 66) hx hb dX4_fate_62 (by decide) ?_
        refine va_iast hx hb hK hP hD hS 1 0 rfl rfl (kin_lit (j := 15) (n := 1203) (by decide) (by decide)) dX4_fate_66 (fun H locs hP hD hS => ?_)
        have hP : va_P D vwCl (mdW cI am (va_up (va_up (va_up M5.1 0 g6) 0 g7) 0 (upd g7 15 1), M5.2)) H := hP
        have hD : va_D A (mdW cI am (va_up (va_up (va_up M5.1 0 g6) 0 g7) 0 (upd g7 15 1), M5.2)) := hD
        generalize eg9 : upd g7 15 1 = g9 at hR hP hD hF
        replace hR := bnd_e hR
        replace hF := bnd_p hF
        refine lv_iconst (v := 0) hx hb dX4_fate_67 (by decide) ?_
        refine lv_istore_n (lv' := [(2, .int 0), (0, .ref (am 0)), (1, .int x1)]) hx hb dX4_fate_68 rfl hl (by decide) rfl (fun ls hl => ?_)
        have loop69 : ∀ (n69 : Nat) (y1 : Int32) (y2 : Int32) (M : Md) (H : Heap) (locs : List Loc) (ls : Array Slot), fx4_fate_L69 n69 y1 y2 M = R → sx4_fate_L69 n69 y1 y2 M → va_P D vwCl (mdW cI am M) H → va_D A (mdW cI am M) → va_S A s.heap H locs → lv_has ls 3 [(1, .int y1), (2, .int y2), (0, .ref (am 0))] → W p l e (kRm 6 136) s m ([.ref (am 0), .int x1] : List Value).toArray below meth c H locs 0 0 (kQI D below R.1 (mdW cI am R.2) A ([.ref (am 0), .int x1] : List Value).toArray s) (F0 m 69 ls []) := by
          intro n69
          induction n69 with
          | zero => intro y1 y2 M H locs ls hR hF; exact hF.elim
          | succ n69 ih69 =>
            intro y1 y2 M H locs ls hR hF hP hD hS hl
            rw [fx4_fate_L69] at hR
            rw [sx4_fate_L69] at hF
            refine lv_iload_n hx hb dX4_fate_69 rfl (lv_at hl 1 rfl) ?_
            refine lv_sipush (v := 1000) hx hb dX4_fate_70 (by decide) ?_
            refine lv_icmp_ge (tgt := 97) hx hb dX4_fate_73 (by decide) (fun c10 => ?_) (fun c10 => ?_)
            · rw [if_pos c10] at hR hF
              refine lv_aload_n hx hb dX4_fate_97 rfl (lv_at hl 2 rfl) ?_
              refine va_get (D := D) (ci := 4) (v := .ref (am 1)) (C := RX4) (T := TX4) (N := 8) hx hb hts hinX4 hown hK hP 0 rfl rfl 0 (by decide) q1 (fun _ h9 => h9) rfl dX4_fate_98 ?_
              refine lv_sipush (v := 1201) hx hb dX4_fate_101 (by decide) ?_
              refine va_iald hx hb hK hP 1 0 rfl rfl (kin_lit (j := 1201) (n := 1203) (by decide) (by decide)) dX4_fate_104 ?_
              refine kw_top (v := .int ((M.1 0) 1201)) rfl ?_
              refine lv_istore_n (lv' := [(2, .int ((M.1 0) 1201)), (1, .int y1), (0, .ref (am 0))]) hx hb dX4_fate_105 rfl hl (by decide) rfl (fun ls hl => ?_)
              refine lv_aload_n hx hb dX4_fate_106 rfl (lv_at hl 2 rfl) ?_
              have hs12 := hF
              refine kcV (ci := 4) (q0 := 0) (As := []) (rest := []) E.1 (cx4_takesBack E am M hs12) hX (cwV 0 hts gX4_fate_X4_takesBack rfl rfl rfl hdX4_takesBack ⟨Nat.le_of_ble_eq_true rfl, Nat.le_of_ble_eq_true rfl⟩) hKs hK hP hD hS hA _ _ (kw_self _) (kw_self _).symm rfl rfl rfl rfl hl.1 (Nat.le_of_ble_eq_true rfl) dX4_fate_107 ⟨Nat.zero_le _, Nat.zero_le _⟩ (fun H locs hP hD hS => ?_)
              have hP : va_P D vwCl (mdW cI am (fx4_takesBack M)) H := hP
              have hD : va_D A (mdW cI am (fx4_takesBack M)) := hD
              generalize eM11 : fx4_takesBack M = M11 at hR hP hD
              replace hR := bnd_e hR
              refine lv_iload_n hx hb dX4_fate_110 rfl (lv_at hl 0 rfl) ?_
              subst hR
              exact krI hx hb hr hlk hP hD hS dX4_fate_111 rfl rfl
            · rw [if_neg c10] at hR hF
              refine lv_aload_n hx hb dX4_fate_76 rfl (lv_at hl 2 rfl) ?_
              refine va_get (D := D) (ci := 4) (v := .ref (am 1)) (C := RX4) (T := TX4) (N := 8) hx hb hts hinX4 hown hK hP 0 rfl rfl 0 (by decide) q1 (fun _ h9 => h9) rfl dX4_fate_77 ?_
              refine lv_sipush (v := 1201) hx hb dX4_fate_80 (by decide) ?_
              refine va_iald hx hb hK hP 1 0 rfl rfl (kin_lit (j := 1201) (n := 1203) (by decide) (by decide)) dX4_fate_83 ?_
              refine kw_top (v := .int ((M.1 0) 1201)) rfl ?_
              refine lv_if_ne (tgt := 97) hx hb dX4_fate_84 (by decide) (fun c13 => ?_) (fun c13 => ?_)
              · rw [if_neg c13] at hR hF
                refine lv_aload_n hx hb dX4_fate_97 rfl (lv_at hl 2 rfl) ?_
                refine va_get (D := D) (ci := 4) (v := .ref (am 1)) (C := RX4) (T := TX4) (N := 8) hx hb hts hinX4 hown hK hP 0 rfl rfl 0 (by decide) q1 (fun _ h9 => h9) rfl dX4_fate_98 ?_
                refine lv_sipush (v := 1201) hx hb dX4_fate_101 (by decide) ?_
                refine va_iald hx hb hK hP 1 0 rfl rfl (kin_lit (j := 1201) (n := 1203) (by decide) (by decide)) dX4_fate_104 ?_
                refine kw_top (v := .int ((M.1 0) 1201)) rfl ?_
                refine lv_istore_n (lv' := [(2, .int ((M.1 0) 1201)), (1, .int y1), (0, .ref (am 0))]) hx hb dX4_fate_105 rfl hl (by decide) rfl (fun ls hl => ?_)
                refine lv_aload_n hx hb dX4_fate_106 rfl (lv_at hl 2 rfl) ?_
                have hs17 := hF
                refine kcV (ci := 4) (q0 := 0) (As := []) (rest := []) E.1 (cx4_takesBack E am M hs17) hX (cwV 0 hts gX4_fate_X4_takesBack rfl rfl rfl hdX4_takesBack ⟨Nat.le_of_ble_eq_true rfl, Nat.le_of_ble_eq_true rfl⟩) hKs hK hP hD hS hA _ _ (kw_self _) (kw_self _).symm rfl rfl rfl rfl hl.1 (Nat.le_of_ble_eq_true rfl) dX4_fate_107 ⟨Nat.zero_le _, Nat.zero_le _⟩ (fun H locs hP hD hS => ?_)
                have hP : va_P D vwCl (mdW cI am (fx4_takesBack M)) H := hP
                have hD : va_D A (mdW cI am (fx4_takesBack M)) := hD
                generalize eM16 : fx4_takesBack M = M16 at hR hP hD
                replace hR := bnd_e hR
                refine lv_iload_n hx hb dX4_fate_110 rfl (lv_at hl 0 rfl) ?_
                subst hR
                exact krI hx hb hr hlk hP hD hS dX4_fate_111 rfl rfl
              · rw [if_pos c13] at hR hF
                refine lv_aload_n hx hb dX4_fate_87 rfl (lv_at hl 2 rfl) ?_
                obtain ⟨hs15, hF⟩ := hF
                refine kcV (ci := 4) (q0 := 0) (As := []) (rest := []) E.1 (cx4_tickOn E am (M.1 4 0) (M.1 4 1) (M.1 4 2) M.2 (M.1 0) hs15) hX (cwV 0 hts gX4_fate_X4_tickOn rfl rfl rfl hdX4_tickOn ⟨Nat.le_of_ble_eq_true rfl, Nat.le_of_ble_eq_true rfl⟩) hKs hK hP hD hS hA _ _ (md_mn cI am M) (md_mn' cI am M _) rfl rfl rfl rfl hl.1 (Nat.le_of_ble_eq_true rfl) dX4_fate_88 ⟨Nat.zero_le _, Nat.zero_le _⟩ (fun H locs hP hD hS => ?_)
                have hP : va_P D vwCl (mdW cI am (va_up M.1 0 (fx4_tickOn (M.1 0)), M.2)) H := hP
                have hD : va_D A (mdW cI am (va_up M.1 0 (fx4_tickOn (M.1 0)), M.2)) := hD
                generalize eM14 : fx4_tickOn (M.1 0) = M14 at hR hF hP hD
                replace hR := bnd_e hR
                replace hF := bnd_p hF
                refine lv_iinc (v := y2 + 1) (lv' := [(2, .int (y2 + 1)), (1, .int y1), (0, .ref (am 0))]) hx hb dX4_fate_91 hl (k := 1) rfl rfl (by decide) rfl (fun ls hl => ?_)
                refine lv_goto (tgt := 69) hx hb dX4_fate_94 (by decide) ?_
                exact ih69 y1 (y2 + 1) (va_up M.1 0 M14, M.2) _ _ ls hR hF hP hD hS (lv_sub hl [1, 0, 2] rfl)
        exact loop69 kfu x1 0 (va_up (va_up (va_up M5.1 0 g6) 0 g7) 0 g9, M5.2) _ _ ls hR hF hP hD hS (lv_sub hl [2, 0, 1] rfl)
    · rw [if_neg c4] at hR hF
      refine lv_iconst (v := 0) hx hb dX4_fate_21 (by decide) ?_
      subst hR
      exact krI hx hb hr hlk hP hD hS dX4_fate_22 rfl rfl

theorem hdX4_append : yX4_append.cls = RX4 ∧ yX4_append.cls ≠ "java/lang/invoke/MethodHandle" ∧ yX4_append.cls ≠ "java/lang/invoke/VarHandle" ∧ (parseMethodDescriptor yX4_append.desc).map (fun d => d.parameters.length) = some 1 := by decide +kernel
def fx4_append (M : Md) (x1 : Int32) : Int32 × (Md) := (if (fx4_within x1 0 127) = 0 then (bnd (fx4_refused M 1) (fun u2 => (if u2.1 = 0 then (bnd (upd (u2.2.1 3) (u2.2.1 4 2).toNatClampNeg x1) (fun g5 => ((u2.2.1 4 2) + 1, (sset (va_up u2.2.1 3 g5) 4 2 ((u2.2.1 4 2) + 1), u2.2.2)))) else (0, u2.2)))) else (if (M.1 4 2) = 80 then (bnd (fx4_refused M 2) (fun u7 => (if u7.1 = 0 then (bnd (upd (u7.2.1 3) (u7.2.1 4 2).toNatClampNeg x1) (fun g10 => ((u7.2.1 4 2) + 1, (sset (va_up u7.2.1 3 g10) 4 2 ((u7.2.1 4 2) + 1), u7.2.2)))) else (0, u7.2)))) else (bnd (fx4_refused M 0) (fun u11 => (if u11.1 = 0 then (bnd (upd (u11.2.1 3) (u11.2.1 4 2).toNatClampNeg x1) (fun g14 => ((u11.2.1 4 2) + 1, (sset (va_up u11.2.1 3 g14) 4 2 ((u11.2.1 4 2) + 1), u11.2.2)))) else (0, u11.2))))))
def sx4_append (M : Md) (x1 : Int32) : Prop := (if (fx4_within x1 0 127) = 0 then (bnd (fx4_refused M 1) (fun u2 => (if u2.1 = 0 then vp_in (u2.2.1 4 2) 80 else True))) else (if (M.1 4 2) = 80 then (bnd (fx4_refused M 2) (fun u7 => (if u7.1 = 0 then vp_in (u7.2.1 4 2) 80 else True))) else (bnd (fx4_refused M 0) (fun u11 => (if u11.1 = 0 then vp_in (u11.2.1 4 2) 80 else True)))))
set_option maxHeartbeats 4000000 in
set_option maxRecDepth 100000 in
theorem cx4_append {l : Launch} {D : va_G} {cI cB cS cJ : ClassId} {K : State → Prop} (E : kE D cI cB cS cJ K) (am : Nat → Nat) (M : Md) (x1 : Int32) (hF : sx4_append M x1) : kI l D K yX4_append wsX4_append 1 22 [.ref (am 0), .int x1] (mdW cI am M) (fx4_append M x1).1 (mdW cI am ((fx4_append M x1).2)) := by
  refine kI_of (own := RX4) (cc := cX4_append) (maxL := 2) (tys := kty cI cB cS cJ) (fun U h => (E.2 U h).1) (by decide) rfl rfl (Nat.le_of_ble_eq_true rfl) ?_
  intro p e s m below meth c A ls hx hb hr hml hts hown hlk hKs hK hP hD hA hS hl
  have hl : lv_has ls 2 [(0, .ref (am 0)), (1, .int x1)] := hl
  have hX : CallFix p m c cX4_append 2 s _ wsX4_append RX4 := ⟨hx, hb, hml, hown, hts⟩
  have hinX4 : ∀ w ∈ wsX40, w ∈ wsX4_append := fun w h => List.mem_cons_of_mem _ (List.mem_append_right _ h)
  have q1 := hts (.fieldLink RX4 128 "LabelStationModel" "length" "I") (List.mem_of_getElem? (i := 1) rfl)
  have q2 := hts (.fieldLink RX4 19 "LabelStationModel" "text" "[I") (List.mem_of_getElem? (i := 2) rfl)
  generalize hR : fx4_append M x1 = R
  rw [fx4_append] at hR
  rw [sx4_append] at hF
  refine lv_aload_n hx hb dX4_append_0 rfl (lv_at hl 0 rfl) ?_
  refine lv_iload_n hx hb dX4_append_1 rfl (lv_at hl 1 rfl) ?_
  refine lv_iconst (v := 0) hx hb dX4_append_2 (by decide) ?_
  refine lv_bipush (v := 127) hx hb dX4_append_3 (by decide) ?_
  refine kcsI (As := [.int x1, .int 0, .int 127]) (rest := [.ref (am 0)]) E.1 (cx4_within E x1 0 127) hX (va_cwS 3 hts gX4_append_X4_within rfl rfl rfl hdX4_within.2 ⟨Nat.le_of_ble_eq_true rfl, Nat.le_of_ble_eq_true rfl⟩) hKs hP hD hS hA _ _ (kw_nil _) (kw_nil _).symm rfl rfl hl.1 (Nat.le_of_ble_eq_true rfl) dX4_append_5 ⟨Nat.zero_le _, Nat.zero_le _⟩ (fun H locs hP hD hS => ?_)
  refine lv_if_ne (tgt := 15) hx hb dX4_append_8 (by decide) (fun c1 => ?_) (fun c1 => ?_)
  · rw [if_neg c1] at hR hF
    refine lv_aload_n hx hb dX4_append_15 rfl (lv_at hl 0 rfl) ?_
    refine va_get (D := D) (ci := 4) (v := .int (M.1 4 2)) (C := RX4) (T := TX4) (N := 8) hx hb hts hinX4 hown hK hP 0 rfl rfl 6 (by decide) q1 (fun _ h9 => h9) rfl dX4_append_16 ?_
    refine lv_bipush (v := 80) hx hb dX4_append_19 (by decide) ?_
    refine lv_icmp_ne (tgt := 28) hx hb dX4_append_21 (by decide) (fun c6 => ?_) (fun c6 => ?_)
    · rw [if_neg c6] at hR hF
      refine lv_iconst (v := 0) hx hb dX4_append_28 (by decide) ?_
      refine kcI (ci := 4) (q0 := 0) (As := [.int 0]) (rest := []) E.1 (cx4_refused E am M 0) hX (cwV 1 hts gX4_append_X4_refused rfl rfl rfl hdX4_refused ⟨Nat.le_of_ble_eq_true rfl, Nat.le_of_ble_eq_true rfl⟩) hKs hK hP hD hS hA _ _ (kw_self _) (kw_self _).symm rfl rfl rfl rfl hl.1 (Nat.le_of_ble_eq_true rfl) dX4_append_29 ⟨Nat.zero_le _, Nat.zero_le _⟩ (fun H locs hP hD hS => ?_)
      have hP : va_P D vwCl (mdW cI am ((fx4_refused M 0).2)) H := hP
      have hD : va_D A (mdW cI am ((fx4_refused M 0).2)) := hD
      generalize eu11 : fx4_refused M 0 = u11 at hR hF hP hD ⊢
      replace hR := bnd_e hR
      replace hF := bnd_p hF
      refine lv_if_eq (tgt := 37) hx hb dX4_append_32 (by decide) (fun c12 => ?_) (fun c12 => ?_)
      · rw [if_pos c12] at hR hF
        refine lv_aload_n hx hb dX4_append_37 rfl (lv_at hl 0 rfl) ?_
        refine va_get (D := D) (ci := 4) (v := .ref (am 4)) (C := RX4) (T := TX4) (N := 8) hx hb hts hinX4 hown hK hP 0 rfl rfl 5 (by decide) q2 (fun _ h9 => h9) rfl dX4_append_38 ?_
        refine lv_aload_n hx hb dX4_append_41 rfl (lv_at hl 0 rfl) ?_
        refine va_get (D := D) (ci := 4) (v := .int (u11.2.1 4 2)) (C := RX4) (T := TX4) (N := 8) hx hb hts hinX4 hown hK hP 0 rfl rfl 6 (by decide) q1 (fun _ h9 => h9) rfl dX4_append_42 ?_
        refine lv_iload_n hx hb dX4_append_45 rfl (lv_at hl 1 rfl) ?_
        have hi13 := hF
        refine va_iast hx hb hK hP hD hS 4 0 rfl rfl hi13 dX4_append_46 (fun H locs hP hD hS => ?_)
        have hP : va_P D vwCl (mdW cI am (va_up u11.2.1 3 (upd (u11.2.1 3) (u11.2.1 4 2).toNatClampNeg x1), u11.2.2)) H := hP
        have hD : va_D A (mdW cI am (va_up u11.2.1 3 (upd (u11.2.1 3) (u11.2.1 4 2).toNatClampNeg x1), u11.2.2)) := hD
        generalize eg14 : upd (u11.2.1 3) (u11.2.1 4 2).toNatClampNeg x1 = g14 at hR hP hD
        replace hR := bnd_e hR
        refine lv_aload_n hx hb dX4_append_47 rfl (lv_at hl 0 rfl) ?_
        refine lv_dup hx hb dX4_append_48 rfl ?_
        refine va_get (D := D) (ci := 4) (v := .int (u11.2.1 4 2)) (C := RX4) (T := TX4) (N := 8) hx hb hts hinX4 hown hK hP 0 rfl rfl 6 (by decide) q1 (fun _ h9 => h9) rfl dX4_append_49 ?_
        refine lv_iconst (v := 1) hx hb dX4_append_52 (by decide) ?_
        refine lv_iadd hx hb dX4_append_53 ?_
        refine va_put (D := D) (ci := 4) (v := .int ((u11.2.1 4 2) + 1)) (ty := .int) (C := RX4) (T := TX4) (N := 8) hx hb hts hinX4 tyX4 tyX4_ok nmX4 hown hK hP hD hS 0 rfl rfl 6 (by decide) q1 (fun _ h9 => h9) rfl (by decide +kernel) rfl rfl (Nat.le_of_ble_eq_true rfl) dX4_append_54 (fun H locs hP hD hS => ?_)
        have hP : va_P D vwCl (mdW cI am (sset (va_up u11.2.1 3 g14) 4 2 ((u11.2.1 4 2) + 1), u11.2.2)) H := hP
        have hD : va_D A (mdW cI am (sset (va_up u11.2.1 3 g14) 4 2 ((u11.2.1 4 2) + 1), u11.2.2)) := hD
        refine lv_aload_n hx hb dX4_append_57 rfl (lv_at hl 0 rfl) ?_
        refine va_get (D := D) (ci := 4) (v := .int ((u11.2.1 4 2) + 1)) (C := RX4) (T := TX4) (N := 8) hx hb hts hinX4 hown hK hP 0 rfl rfl 6 (by decide) q1 (fun _ h9 => h9) rfl dX4_append_58 ?_
        subst hR
        exact krI hx hb hr hlk hP hD hS dX4_append_61 rfl rfl
      · rw [if_neg c12] at hR hF
        refine lv_iconst (v := 0) hx hb dX4_append_35 (by decide) ?_
        subst hR
        exact krI hx hb hr hlk hP hD hS dX4_append_36 rfl rfl
    · rw [if_pos c6] at hR hF
      refine lv_iconst (v := 2) hx hb dX4_append_24 (by decide) ?_
      refine lv_goto (tgt := 29) hx hb dX4_append_25 (by decide) ?_
      refine kcI (ci := 4) (q0 := 0) (As := [.int 2]) (rest := []) E.1 (cx4_refused E am M 2) hX (cwV 1 hts gX4_append_X4_refused rfl rfl rfl hdX4_refused ⟨Nat.le_of_ble_eq_true rfl, Nat.le_of_ble_eq_true rfl⟩) hKs hK hP hD hS hA _ _ (kw_self _) (kw_self _).symm rfl rfl rfl rfl hl.1 (Nat.le_of_ble_eq_true rfl) dX4_append_29 ⟨Nat.zero_le _, Nat.zero_le _⟩ (fun H locs hP hD hS => ?_)
      have hP : va_P D vwCl (mdW cI am ((fx4_refused M 2).2)) H := hP
      have hD : va_D A (mdW cI am ((fx4_refused M 2).2)) := hD
      generalize eu7 : fx4_refused M 2 = u7 at hR hF hP hD ⊢
      replace hR := bnd_e hR
      replace hF := bnd_p hF
      refine lv_if_eq (tgt := 37) hx hb dX4_append_32 (by decide) (fun c8 => ?_) (fun c8 => ?_)
      · rw [if_pos c8] at hR hF
        refine lv_aload_n hx hb dX4_append_37 rfl (lv_at hl 0 rfl) ?_
        refine va_get (D := D) (ci := 4) (v := .ref (am 4)) (C := RX4) (T := TX4) (N := 8) hx hb hts hinX4 hown hK hP 0 rfl rfl 5 (by decide) q2 (fun _ h9 => h9) rfl dX4_append_38 ?_
        refine lv_aload_n hx hb dX4_append_41 rfl (lv_at hl 0 rfl) ?_
        refine va_get (D := D) (ci := 4) (v := .int (u7.2.1 4 2)) (C := RX4) (T := TX4) (N := 8) hx hb hts hinX4 hown hK hP 0 rfl rfl 6 (by decide) q1 (fun _ h9 => h9) rfl dX4_append_42 ?_
        refine lv_iload_n hx hb dX4_append_45 rfl (lv_at hl 1 rfl) ?_
        have hi9 := hF
        refine va_iast hx hb hK hP hD hS 4 0 rfl rfl hi9 dX4_append_46 (fun H locs hP hD hS => ?_)
        have hP : va_P D vwCl (mdW cI am (va_up u7.2.1 3 (upd (u7.2.1 3) (u7.2.1 4 2).toNatClampNeg x1), u7.2.2)) H := hP
        have hD : va_D A (mdW cI am (va_up u7.2.1 3 (upd (u7.2.1 3) (u7.2.1 4 2).toNatClampNeg x1), u7.2.2)) := hD
        generalize eg10 : upd (u7.2.1 3) (u7.2.1 4 2).toNatClampNeg x1 = g10 at hR hP hD
        replace hR := bnd_e hR
        refine lv_aload_n hx hb dX4_append_47 rfl (lv_at hl 0 rfl) ?_
        refine lv_dup hx hb dX4_append_48 rfl ?_
        refine va_get (D := D) (ci := 4) (v := .int (u7.2.1 4 2)) (C := RX4) (T := TX4) (N := 8) hx hb hts hinX4 hown hK hP 0 rfl rfl 6 (by decide) q1 (fun _ h9 => h9) rfl dX4_append_49 ?_
        refine lv_iconst (v := 1) hx hb dX4_append_52 (by decide) ?_
        refine lv_iadd hx hb dX4_append_53 ?_
        refine va_put (D := D) (ci := 4) (v := .int ((u7.2.1 4 2) + 1)) (ty := .int) (C := RX4) (T := TX4) (N := 8) hx hb hts hinX4 tyX4 tyX4_ok nmX4 hown hK hP hD hS 0 rfl rfl 6 (by decide) q1 (fun _ h9 => h9) rfl (by decide +kernel) rfl rfl (Nat.le_of_ble_eq_true rfl) dX4_append_54 (fun H locs hP hD hS => ?_)
        have hP : va_P D vwCl (mdW cI am (sset (va_up u7.2.1 3 g10) 4 2 ((u7.2.1 4 2) + 1), u7.2.2)) H := hP
        have hD : va_D A (mdW cI am (sset (va_up u7.2.1 3 g10) 4 2 ((u7.2.1 4 2) + 1), u7.2.2)) := hD
        refine lv_aload_n hx hb dX4_append_57 rfl (lv_at hl 0 rfl) ?_
        refine va_get (D := D) (ci := 4) (v := .int ((u7.2.1 4 2) + 1)) (C := RX4) (T := TX4) (N := 8) hx hb hts hinX4 hown hK hP 0 rfl rfl 6 (by decide) q1 (fun _ h9 => h9) rfl dX4_append_58 ?_
        subst hR
        exact krI hx hb hr hlk hP hD hS dX4_append_61 rfl rfl
      · rw [if_neg c8] at hR hF
        refine lv_iconst (v := 0) hx hb dX4_append_35 (by decide) ?_
        subst hR
        exact krI hx hb hr hlk hP hD hS dX4_append_36 rfl rfl
  · rw [if_pos c1] at hR hF
    refine lv_iconst (v := 1) hx hb dX4_append_11 (by decide) ?_
    refine lv_goto (tgt := 29) hx hb dX4_append_12 (by decide) ?_
    refine kcI (ci := 4) (q0 := 0) (As := [.int 1]) (rest := []) E.1 (cx4_refused E am M 1) hX (cwV 1 hts gX4_append_X4_refused rfl rfl rfl hdX4_refused ⟨Nat.le_of_ble_eq_true rfl, Nat.le_of_ble_eq_true rfl⟩) hKs hK hP hD hS hA _ _ (kw_self _) (kw_self _).symm rfl rfl rfl rfl hl.1 (Nat.le_of_ble_eq_true rfl) dX4_append_29 ⟨Nat.zero_le _, Nat.zero_le _⟩ (fun H locs hP hD hS => ?_)
    have hP : va_P D vwCl (mdW cI am ((fx4_refused M 1).2)) H := hP
    have hD : va_D A (mdW cI am ((fx4_refused M 1).2)) := hD
    generalize eu2 : fx4_refused M 1 = u2 at hR hF hP hD ⊢
    replace hR := bnd_e hR
    replace hF := bnd_p hF
    refine lv_if_eq (tgt := 37) hx hb dX4_append_32 (by decide) (fun c3 => ?_) (fun c3 => ?_)
    · rw [if_pos c3] at hR hF
      refine lv_aload_n hx hb dX4_append_37 rfl (lv_at hl 0 rfl) ?_
      refine va_get (D := D) (ci := 4) (v := .ref (am 4)) (C := RX4) (T := TX4) (N := 8) hx hb hts hinX4 hown hK hP 0 rfl rfl 5 (by decide) q2 (fun _ h9 => h9) rfl dX4_append_38 ?_
      refine lv_aload_n hx hb dX4_append_41 rfl (lv_at hl 0 rfl) ?_
      refine va_get (D := D) (ci := 4) (v := .int (u2.2.1 4 2)) (C := RX4) (T := TX4) (N := 8) hx hb hts hinX4 hown hK hP 0 rfl rfl 6 (by decide) q1 (fun _ h9 => h9) rfl dX4_append_42 ?_
      refine lv_iload_n hx hb dX4_append_45 rfl (lv_at hl 1 rfl) ?_
      have hi4 := hF
      refine va_iast hx hb hK hP hD hS 4 0 rfl rfl hi4 dX4_append_46 (fun H locs hP hD hS => ?_)
      have hP : va_P D vwCl (mdW cI am (va_up u2.2.1 3 (upd (u2.2.1 3) (u2.2.1 4 2).toNatClampNeg x1), u2.2.2)) H := hP
      have hD : va_D A (mdW cI am (va_up u2.2.1 3 (upd (u2.2.1 3) (u2.2.1 4 2).toNatClampNeg x1), u2.2.2)) := hD
      generalize eg5 : upd (u2.2.1 3) (u2.2.1 4 2).toNatClampNeg x1 = g5 at hR hP hD
      replace hR := bnd_e hR
      refine lv_aload_n hx hb dX4_append_47 rfl (lv_at hl 0 rfl) ?_
      refine lv_dup hx hb dX4_append_48 rfl ?_
      refine va_get (D := D) (ci := 4) (v := .int (u2.2.1 4 2)) (C := RX4) (T := TX4) (N := 8) hx hb hts hinX4 hown hK hP 0 rfl rfl 6 (by decide) q1 (fun _ h9 => h9) rfl dX4_append_49 ?_
      refine lv_iconst (v := 1) hx hb dX4_append_52 (by decide) ?_
      refine lv_iadd hx hb dX4_append_53 ?_
      refine va_put (D := D) (ci := 4) (v := .int ((u2.2.1 4 2) + 1)) (ty := .int) (C := RX4) (T := TX4) (N := 8) hx hb hts hinX4 tyX4 tyX4_ok nmX4 hown hK hP hD hS 0 rfl rfl 6 (by decide) q1 (fun _ h9 => h9) rfl (by decide +kernel) rfl rfl (Nat.le_of_ble_eq_true rfl) dX4_append_54 (fun H locs hP hD hS => ?_)
      have hP : va_P D vwCl (mdW cI am (sset (va_up u2.2.1 3 g5) 4 2 ((u2.2.1 4 2) + 1), u2.2.2)) H := hP
      have hD : va_D A (mdW cI am (sset (va_up u2.2.1 3 g5) 4 2 ((u2.2.1 4 2) + 1), u2.2.2)) := hD
      refine lv_aload_n hx hb dX4_append_57 rfl (lv_at hl 0 rfl) ?_
      refine va_get (D := D) (ci := 4) (v := .int ((u2.2.1 4 2) + 1)) (C := RX4) (T := TX4) (N := 8) hx hb hts hinX4 hown hK hP 0 rfl rfl 6 (by decide) q1 (fun _ h9 => h9) rfl dX4_append_58 ?_
      subst hR
      exact krI hx hb hr hlk hP hD hS dX4_append_61 rfl rfl
    · rw [if_neg c3] at hR hF
      refine lv_iconst (v := 0) hx hb dX4_append_35 (by decide) ?_
      subst hR
      exact krI hx hb hr hlk hP hD hS dX4_append_36 rfl rfl

theorem hdX4_clearText : yX4_clearText.cls = RX4 ∧ yX4_clearText.cls ≠ "java/lang/invoke/MethodHandle" ∧ yX4_clearText.cls ≠ "java/lang/invoke/VarHandle" ∧ (parseMethodDescriptor yX4_clearText.desc).map (fun d => d.parameters.length) = some 0 := by decide +kernel
def fx4_clearText (M : Md) : Int32 × (Md) := (M.1 4 2, (sset (sset M.1 4 1 0) 4 2 0, M.2))
set_option maxHeartbeats 4000000 in
set_option maxRecDepth 100000 in
theorem cx4_clearText {l : Launch} {D : va_G} {cI cB cS cJ : ClassId} {K : State → Prop} (E : kE D cI cB cS cJ K) (am : Nat → Nat) (M : Md) : kI l D K yX4_clearText wsX4_clearText 0 0 [.ref (am 0)] (mdW cI am M) (fx4_clearText M).1 (mdW cI am ((fx4_clearText M).2)) := by
  refine kI_of (own := RX4) (cc := cX4_clearText) (maxL := 2) (tys := kty cI cB cS cJ) (fun U h => (E.2 U h).1) (by decide) rfl rfl (Nat.le_of_ble_eq_true rfl) ?_
  intro p e s m below meth c A ls hx hb hr hml hts hown hlk hKs hK hP hD hA hS hl
  have hl : lv_has ls 2 [(0, .ref (am 0))] := hl
  have hX : CallFix p m c cX4_clearText 2 s _ wsX4_clearText RX4 := ⟨hx, hb, hml, hown, hts⟩
  have hinX4 : ∀ w ∈ wsX40, w ∈ wsX4_clearText := fun w h => List.mem_cons_of_mem _ (List.mem_append_right _ h)
  have q1 := hts (.fieldLink RX4 22 "LabelStationModel" "refusal" "I") (List.mem_of_getElem? (i := 1) rfl)
  have q2 := hts (.fieldLink RX4 128 "LabelStationModel" "length" "I") (List.mem_of_getElem? (i := 2) rfl)
  generalize hR : fx4_clearText M = R
  rw [fx4_clearText] at hR
  refine lv_aload_n hx hb dX4_clearText_0 rfl (lv_at hl 0 rfl) ?_
  refine lv_iconst (v := 0) hx hb dX4_clearText_1 (by decide) ?_
  refine va_put (D := D) (ci := 4) (v := .int 0) (ty := .int) (C := RX4) (T := TX4) (N := 8) hx hb hts hinX4 tyX4 tyX4_ok nmX4 hown hK hP hD hS 0 rfl rfl 4 (by decide) q1 (fun _ h9 => h9) rfl (by decide +kernel) rfl rfl (Nat.le_of_ble_eq_true rfl) dX4_clearText_2 (fun H locs hP hD hS => ?_)
  have hP : va_P D vwCl (mdW cI am (sset M.1 4 1 0, M.2)) H := hP
  have hD : va_D A (mdW cI am (sset M.1 4 1 0, M.2)) := hD
  refine lv_aload_n hx hb dX4_clearText_5 rfl (lv_at hl 0 rfl) ?_
  refine va_get (D := D) (ci := 4) (v := .int (M.1 4 2)) (C := RX4) (T := TX4) (N := 8) hx hb hts hinX4 hown hK hP 0 rfl rfl 6 (by decide) q2 (fun _ h9 => h9) rfl dX4_clearText_6 ?_
  refine lv_istore_n (lv' := [(1, .int (M.1 4 2)), (0, .ref (am 0))]) hx hb dX4_clearText_9 rfl hl (by decide) rfl (fun ls hl => ?_)
  refine lv_aload_n hx hb dX4_clearText_10 rfl (lv_at hl 1 rfl) ?_
  refine lv_iconst (v := 0) hx hb dX4_clearText_11 (by decide) ?_
  refine va_put (D := D) (ci := 4) (v := .int 0) (ty := .int) (C := RX4) (T := TX4) (N := 8) hx hb hts hinX4 tyX4 tyX4_ok nmX4 hown hK hP hD hS 0 rfl rfl 6 (by decide) q2 (fun _ h9 => h9) rfl (by decide +kernel) rfl rfl (Nat.le_of_ble_eq_true rfl) dX4_clearText_12 (fun H locs hP hD hS => ?_)
  have hP : va_P D vwCl (mdW cI am (sset (sset M.1 4 1 0) 4 2 0, M.2)) H := hP
  have hD : va_D A (mdW cI am (sset (sset M.1 4 1 0) 4 2 0, M.2)) := hD
  refine lv_iload_n hx hb dX4_clearText_15 rfl (lv_at hl 0 rfl) ?_
  subst hR
  exact krI hx hb hr hlk hP hD hS dX4_clearText_16 rfl rfl

theorem hdX4_carryOut : yX4_carryOut.cls = RX4 ∧ yX4_carryOut.cls ≠ "java/lang/invoke/MethodHandle" ∧ yX4_carryOut.cls ≠ "java/lang/invoke/VarHandle" ∧ (parseMethodDescriptor yX4_carryOut.desc).map (fun d => d.parameters.length) = some 0 := by decide +kernel
def fx4_carryOut_L109 : Nat → Int32 → Md → Int32 × (Md)
  | 0, _, M => (0, M)
  | n109 + 1, y1, M => (if 1203 ≤ y1 then (bnd (fx4_saves M) (fun M5 => (bnd (fx4_takesBack M5) (fun M6 => (M6.1 4 2, M6))))) else (bnd (upd (M.1 0) (y1).toNatClampNeg ((M.1 2) (y1).toNatClampNeg)) (fun g12 => (bnd (upd (M.1 2) (y1).toNatClampNeg ((M.1 0) (y1).toNatClampNeg)) (fun g14 => fx4_carryOut_L109 n109 (y1 + 1) (va_up (va_up M.1 0 g12) 2 g14, M.2))))))
def sx4_carryOut_L109 : Nat → Int32 → Md → Prop
  | 0, _, _ => False
  | n109 + 1, y1, M => (if 1203 ≤ y1 then (sx4_saves M ∧ (bnd (fx4_saves M) (fun M5 => sx4_takesBack M5))) else (vp_in (y1) 1203 ∧ (vp_in (y1) 1203 ∧ (vp_in (y1) 1203 ∧ (bnd (upd (M.1 0) (y1).toNatClampNeg ((M.1 2) (y1).toNatClampNeg)) (fun g12 => (vp_in (y1) 1203 ∧ (bnd (upd (M.1 2) (y1).toNatClampNeg ((M.1 0) (y1).toNatClampNeg)) (fun g14 => sx4_carryOut_L109 n109 (y1 + 1) (va_up (va_up M.1 0 g12) 2 g14, M.2))))))))))
def fx4_carryOut_L70 : Nat → Int32 → Md → Int32 × (Md)
  | 0, _, M => (0, M)
  | n70 + 1, y1, M => (if (M.1 4 2) ≤ y1 then fx4_carryOut_L109 kfu 0 M else (bnd (fx4_does (M.1 0) ((M.1 3) (y1).toNatClampNeg)) (fun u16 => (if u16.1 = 0 then (bnd (fx4_takesBack (va_up M.1 0 u16.2, M.2)) (fun M18 => ((-1000) - y1, M18))) else fx4_carryOut_L70 n70 (y1 + 1) (va_up M.1 0 u16.2, M.2)))))
def sx4_carryOut_L70 : Nat → Int32 → Md → Prop
  | 0, _, _ => False
  | n70 + 1, y1, M => (if (M.1 4 2) ≤ y1 then sx4_carryOut_L109 kfu 0 M else (vp_in (y1) 80 ∧ (sx4_does (M.1 0) ((M.1 3) (y1).toNatClampNeg) ∧ (bnd (fx4_does (M.1 0) ((M.1 3) (y1).toNatClampNeg)) (fun u16 => (if u16.1 = 0 then sx4_takesBack (va_up M.1 0 u16.2, M.2) else sx4_carryOut_L70 n70 (y1 + 1) (va_up M.1 0 u16.2, M.2)))))))
def fx4_carryOut_L7 : Nat → Int32 → Md → Int32 × (Md)
  | 0, _, M => (0, M)
  | n7 + 1, y1, M => (if (M.1 4 2) ≤ y1 then (bnd (fx4_laysAside M) (fun M2 => fx4_carryOut_L70 kfu 0 M2)) else (if (fx4_within ((M.1 3) (y1).toNatClampNeg) 48 51) = 0 then (if ((M.1 3) (y1).toNatClampNeg) = 46 then fx4_carryOut_L7 n7 (y1 + 1) M else (if ((M.1 3) (y1).toNatClampNeg) = 58 then fx4_carryOut_L7 n7 (y1 + 1) M else ((-10) - y1, M))) else fx4_carryOut_L7 n7 (y1 + 1) M))
def sx4_carryOut_L7 : Nat → Int32 → Md → Prop
  | 0, _, _ => False
  | n7 + 1, y1, M => (if (M.1 4 2) ≤ y1 then (sx4_laysAside M ∧ (bnd (fx4_laysAside M) (fun M2 => sx4_carryOut_L70 kfu 0 M2))) else (vp_in (y1) 80 ∧ (if (fx4_within ((M.1 3) (y1).toNatClampNeg) 48 51) = 0 then (vp_in (y1) 80 ∧ (if ((M.1 3) (y1).toNatClampNeg) = 46 then sx4_carryOut_L7 n7 (y1 + 1) M else (vp_in (y1) 80 ∧ (if ((M.1 3) (y1).toNatClampNeg) = 58 then sx4_carryOut_L7 n7 (y1 + 1) M else True)))) else sx4_carryOut_L7 n7 (y1 + 1) M)))
def fx4_carryOut (M : Md) : Int32 × (Md) := fx4_carryOut_L7 kfu 0 (sset M.1 4 1 0, M.2)
def sx4_carryOut (M : Md) : Prop := sx4_carryOut_L7 kfu 0 (sset M.1 4 1 0, M.2)
set_option maxHeartbeats 4000000 in
set_option maxRecDepth 100000 in
theorem cx4_carryOut {l : Launch} {D : va_G} {cI cB cS cJ : ClassId} {K : State → Prop} (E : kE D cI cB cS cJ K) (am : Nat → Nat) (M : Md) (hF : sx4_carryOut M) : kI l D K yX4_carryOut wsX4_carryOut 8 179 [.ref (am 0)] (mdW cI am M) (fx4_carryOut M).1 (mdW cI am ((fx4_carryOut M).2)) := by
  refine kI_of (own := RX4) (cc := cX4_carryOut) (maxL := 3) (tys := kty cI cB cS cJ) (fun U h => (E.2 U h).1) (by decide) rfl rfl (Nat.le_of_ble_eq_true rfl) ?_
  intro p e s m below meth c A ls hx hb hr hml hts hown hlk hKs hK hP hD hA hS hl
  have hl : lv_has ls 3 [(0, .ref (am 0))] := hl
  have hX : CallFix p m c cX4_carryOut 3 s _ wsX4_carryOut RX4 := ⟨hx, hb, hml, hown, hts⟩
  have hinX4 : ∀ w ∈ wsX40, w ∈ wsX4_carryOut := fun w h => List.mem_cons_of_mem _ (List.mem_append_right _ h)
  have q1 := hts (.fieldLink RX4 22 "LabelStationModel" "refusal" "I") (List.mem_of_getElem? (i := 1) rfl)
  have q2 := hts (.fieldLink RX4 128 "LabelStationModel" "length" "I") (List.mem_of_getElem? (i := 2) rfl)
  have q3 := hts (.fieldLink RX4 19 "LabelStationModel" "text" "[I") (List.mem_of_getElem? (i := 3) rfl)
  have q4 := hts (.fieldLink RX4 7 "LabelStationModel" "now" "[I") (List.mem_of_getElem? (i := 4) rfl)
  have q5 := hts (.fieldLink RX4 16 "LabelStationModel" "aside" "[I") (List.mem_of_getElem? (i := 5) rfl)
  generalize hR : fx4_carryOut M = R
  rw [fx4_carryOut] at hR
  rw [sx4_carryOut] at hF
  refine lv_aload_n hx hb dX4_carryOut_0 rfl (lv_at hl 0 rfl) ?_
  refine lv_iconst (v := 0) hx hb dX4_carryOut_1 (by decide) ?_
  refine va_put (D := D) (ci := 4) (v := .int 0) (ty := .int) (C := RX4) (T := TX4) (N := 8) hx hb hts hinX4 tyX4 tyX4_ok nmX4 hown hK hP hD hS 0 rfl rfl 4 (by decide) q1 (fun _ h9 => h9) rfl (by decide +kernel) rfl rfl (Nat.le_of_ble_eq_true rfl) dX4_carryOut_2 (fun H locs hP hD hS => ?_)
  have hP : va_P D vwCl (mdW cI am (sset M.1 4 1 0, M.2)) H := hP
  have hD : va_D A (mdW cI am (sset M.1 4 1 0, M.2)) := hD
  refine lv_iconst (v := 0) hx hb dX4_carryOut_5 (by decide) ?_
  refine lv_istore_n (lv' := [(1, .int 0), (0, .ref (am 0))]) hx hb dX4_carryOut_6 rfl hl (by decide) rfl (fun ls hl => ?_)
  have loop7 : ∀ (n7 : Nat) (y1 : Int32) (M : Md) (H : Heap) (locs : List Loc) (ls : Array Slot), fx4_carryOut_L7 n7 y1 M = R → sx4_carryOut_L7 n7 y1 M → va_P D vwCl (mdW cI am M) H → va_D A (mdW cI am M) → va_S A s.heap H locs → lv_has ls 3 [(1, .int y1), (0, .ref (am 0))] → W p l e (kRm 8 179) s m ([.ref (am 0)] : List Value).toArray below meth c H locs 0 0 (kQI D below R.1 (mdW cI am R.2) A ([.ref (am 0)] : List Value).toArray s) (F0 m 7 ls []) := by
    intro n7
    induction n7 with
    | zero => intro y1 M H locs ls hR hF; exact hF.elim
    | succ n7 ih7 =>
      intro y1 M H locs ls hR hF hP hD hS hl
      rw [fx4_carryOut_L7] at hR
      rw [sx4_carryOut_L7] at hF
      refine lv_iload_n hx hb dX4_carryOut_7 rfl (lv_at hl 0 rfl) ?_
      refine lv_aload_n hx hb dX4_carryOut_8 rfl (lv_at hl 1 rfl) ?_
      refine va_get (D := D) (ci := 4) (v := .int (M.1 4 2)) (C := RX4) (T := TX4) (N := 8) hx hb hts hinX4 hown hK hP 0 rfl rfl 6 (by decide) q2 (fun _ h9 => h9) rfl dX4_carryOut_9 ?_
      refine lv_icmp_ge (tgt := 64) hx hb dX4_carryOut_12 (by decide) (fun c1 => ?_) (fun c1 => ?_)
      · rw [if_pos c1] at hR hF
        refine lv_aload_n hx hb dX4_carryOut_64 rfl (lv_at hl 1 rfl) ?_
        obtain ⟨hs21, hF⟩ := hF
        refine kcV (ci := 4) (q0 := 0) (As := []) (rest := []) E.1 (cx4_laysAside E am M hs21) hX (cwV 0 hts gX4_carryOut_X4_laysAside rfl rfl rfl hdX4_laysAside ⟨Nat.le_of_ble_eq_true rfl, Nat.le_of_ble_eq_true rfl⟩) hKs hK hP hD hS hA _ _ (kw_self _) (kw_self _).symm rfl rfl rfl rfl hl.1 (Nat.le_of_ble_eq_true rfl) dX4_carryOut_65 ⟨Nat.zero_le _, Nat.zero_le _⟩ (fun H locs hP hD hS => ?_)
        have hP : va_P D vwCl (mdW cI am (fx4_laysAside M)) H := hP
        have hD : va_D A (mdW cI am (fx4_laysAside M)) := hD
        generalize eM2 : fx4_laysAside M = M2 at hR hF hP hD
        replace hR := bnd_e hR
        replace hF := bnd_p hF
        refine lv_iconst (v := 0) hx hb dX4_carryOut_68 (by decide) ?_
        refine lv_istore_n (lv' := [(1, .int 0), (0, .ref (am 0))]) hx hb dX4_carryOut_69 rfl hl (by decide) rfl (fun ls hl => ?_)
        have loop70 : ∀ (n70 : Nat) (y1 : Int32) (M : Md) (H : Heap) (locs : List Loc) (ls : Array Slot), fx4_carryOut_L70 n70 y1 M = R → sx4_carryOut_L70 n70 y1 M → va_P D vwCl (mdW cI am M) H → va_D A (mdW cI am M) → va_S A s.heap H locs → lv_has ls 3 [(1, .int y1), (0, .ref (am 0))] → W p l e (kRm 8 179) s m ([.ref (am 0)] : List Value).toArray below meth c H locs 0 0 (kQI D below R.1 (mdW cI am R.2) A ([.ref (am 0)] : List Value).toArray s) (F0 m 70 ls []) := by
          intro n70
          induction n70 with
          | zero => intro y1 M H locs ls hR hF; exact hF.elim
          | succ n70 ih70 =>
            intro y1 M H locs ls hR hF hP hD hS hl
            rw [fx4_carryOut_L70] at hR
            rw [sx4_carryOut_L70] at hF
            refine lv_iload_n hx hb dX4_carryOut_70 rfl (lv_at hl 0 rfl) ?_
            refine lv_aload_n hx hb dX4_carryOut_71 rfl (lv_at hl 1 rfl) ?_
            refine va_get (D := D) (ci := 4) (v := .int (M.1 4 2)) (C := RX4) (T := TX4) (N := 8) hx hb hts hinX4 hown hK hP 0 rfl rfl 6 (by decide) q2 (fun _ h9 => h9) rfl dX4_carryOut_72 ?_
            refine lv_icmp_ge (tgt := 107) hx hb dX4_carryOut_75 (by decide) (fun c3 => ?_) (fun c3 => ?_)
            · rw [if_pos c3] at hR hF
              refine lv_iconst (v := 0) hx hb dX4_carryOut_107 (by decide) ?_
              refine lv_istore_n (lv' := [(1, .int 0), (0, .ref (am 0))]) hx hb dX4_carryOut_108 rfl hl (by decide) rfl (fun ls hl => ?_)
              have loop109 : ∀ (n109 : Nat) (y1 : Int32) (M : Md) (H : Heap) (locs : List Loc) (ls : Array Slot), fx4_carryOut_L109 n109 y1 M = R → sx4_carryOut_L109 n109 y1 M → va_P D vwCl (mdW cI am M) H → va_D A (mdW cI am M) → va_S A s.heap H locs → lv_has ls 3 [(1, .int y1), (0, .ref (am 0))] → W p l e (kRm 8 179) s m ([.ref (am 0)] : List Value).toArray below meth c H locs 0 0 (kQI D below R.1 (mdW cI am R.2) A ([.ref (am 0)] : List Value).toArray s) (F0 m 109 ls []) := by
                intro n109
                induction n109 with
                | zero => intro y1 M H locs ls hR hF; exact hF.elim
                | succ n109 ih109 =>
                  intro y1 M H locs ls hR hF hP hD hS hl
                  rw [fx4_carryOut_L109] at hR
                  rw [sx4_carryOut_L109] at hF
                  refine lv_iload_n hx hb dX4_carryOut_109 rfl (lv_at hl 0 rfl) ?_
                  refine lv_sipush (v := 1203) hx hb dX4_carryOut_110 (by decide) ?_
                  refine lv_icmp_ge (tgt := 148) hx hb dX4_carryOut_113 (by decide) (fun c4 => ?_) (fun c4 => ?_)
                  · rw [if_pos c4] at hR hF
                    refine lv_aload_n hx hb dX4_carryOut_148 rfl (lv_at hl 1 rfl) ?_
                    obtain ⟨hs8, hF⟩ := hF
                    refine kcV (ci := 4) (q0 := 0) (As := []) (rest := []) E.1 (cx4_saves E am M hs8) hX (cwV 0 hts gX4_carryOut_X4_saves rfl rfl rfl hdX4_saves ⟨Nat.le_of_ble_eq_true rfl, Nat.le_of_ble_eq_true rfl⟩) hKs hK hP hD hS hA _ _ (kw_self _) (kw_self _).symm rfl rfl rfl rfl hl.1 (Nat.le_of_ble_eq_true rfl) dX4_carryOut_149 ⟨Nat.zero_le _, Nat.zero_le _⟩ (fun H locs hP hD hS => ?_)
                    have hP : va_P D vwCl (mdW cI am (fx4_saves M)) H := hP
                    have hD : va_D A (mdW cI am (fx4_saves M)) := hD
                    generalize eM5 : fx4_saves M = M5 at hR hF hP hD
                    replace hR := bnd_e hR
                    replace hF := bnd_p hF
                    refine lv_aload_n hx hb dX4_carryOut_152 rfl (lv_at hl 1 rfl) ?_
                    have hs7 := hF
                    refine kcV (ci := 4) (q0 := 0) (As := []) (rest := []) E.1 (cx4_takesBack E am M5 hs7) hX (cwV 0 hts gX4_carryOut_X4_takesBack rfl rfl rfl hdX4_takesBack ⟨Nat.le_of_ble_eq_true rfl, Nat.le_of_ble_eq_true rfl⟩) hKs hK hP hD hS hA _ _ (kw_self _) (kw_self _).symm rfl rfl rfl rfl hl.1 (Nat.le_of_ble_eq_true rfl) dX4_carryOut_153 ⟨Nat.zero_le _, Nat.zero_le _⟩ (fun H locs hP hD hS => ?_)
                    have hP : va_P D vwCl (mdW cI am (fx4_takesBack M5)) H := hP
                    have hD : va_D A (mdW cI am (fx4_takesBack M5)) := hD
                    generalize eM6 : fx4_takesBack M5 = M6 at hR hP hD
                    replace hR := bnd_e hR
                    refine lv_aload_n hx hb dX4_carryOut_156 rfl (lv_at hl 1 rfl) ?_
                    refine va_get (D := D) (ci := 4) (v := .int (M6.1 4 2)) (C := RX4) (T := TX4) (N := 8) hx hb hts hinX4 hown hK hP 0 rfl rfl 6 (by decide) q2 (fun _ h9 => h9) rfl dX4_carryOut_157 ?_
                    subst hR
                    exact krI hx hb hr hlk hP hD hS dX4_carryOut_160 rfl rfl
                  · rw [if_neg c4] at hR hF
                    refine lv_aload_n hx hb dX4_carryOut_116 rfl (lv_at hl 1 rfl) ?_
                    refine va_get (D := D) (ci := 4) (v := .ref (am 1)) (C := RX4) (T := TX4) (N := 8) hx hb hts hinX4 hown hK hP 0 rfl rfl 0 (by decide) q4 (fun _ h9 => h9) rfl dX4_carryOut_117 ?_
                    refine lv_iload_n hx hb dX4_carryOut_120 rfl (lv_at hl 0 rfl) ?_
                    obtain ⟨hi9, hF⟩ := hF
                    refine va_iald hx hb hK hP 1 0 rfl rfl hi9 dX4_carryOut_121 ?_
                    refine lv_istore_n (lv' := [(2, .int ((M.1 0) (y1).toNatClampNeg)), (1, .int y1), (0, .ref (am 0))]) hx hb dX4_carryOut_122 rfl hl (by decide) rfl (fun ls hl => ?_)
                    refine lv_aload_n hx hb dX4_carryOut_123 rfl (lv_at hl 2 rfl) ?_
                    refine va_get (D := D) (ci := 4) (v := .ref (am 1)) (C := RX4) (T := TX4) (N := 8) hx hb hts hinX4 hown hK hP 0 rfl rfl 0 (by decide) q4 (fun _ h9 => h9) rfl dX4_carryOut_124 ?_
                    refine lv_iload_n hx hb dX4_carryOut_127 rfl (lv_at hl 1 rfl) ?_
                    refine lv_aload_n hx hb dX4_carryOut_128 rfl (lv_at hl 2 rfl) ?_
                    refine va_get (D := D) (ci := 4) (v := .ref (am 3)) (C := RX4) (T := TX4) (N := 8) hx hb hts hinX4 hown hK hP 0 rfl rfl 2 (by decide) q5 (fun _ h9 => h9) rfl dX4_carryOut_129 ?_
                    refine lv_iload_n hx hb dX4_carryOut_132 rfl (lv_at hl 1 rfl) ?_
                    obtain ⟨hi10, hF⟩ := hF
                    refine va_iald hx hb hK hP 3 0 rfl rfl hi10 dX4_carryOut_133 ?_
                    obtain ⟨hi11, hF⟩ := hF
                    refine va_iast hx hb hK hP hD hS 1 0 rfl rfl hi11 dX4_carryOut_134 (fun H locs hP hD hS => ?_)
                    have hP : va_P D vwCl (mdW cI am (va_up M.1 0 (upd (M.1 0) (y1).toNatClampNeg ((M.1 2) (y1).toNatClampNeg)), M.2)) H := hP
                    have hD : va_D A (mdW cI am (va_up M.1 0 (upd (M.1 0) (y1).toNatClampNeg ((M.1 2) (y1).toNatClampNeg)), M.2)) := hD
                    generalize eg12 : upd (M.1 0) (y1).toNatClampNeg ((M.1 2) (y1).toNatClampNeg) = g12 at hR hP hD hF
                    replace hR := bnd_e hR
                    replace hF := bnd_p hF
                    refine lv_aload_n hx hb dX4_carryOut_135 rfl (lv_at hl 2 rfl) ?_
                    refine va_get (D := D) (ci := 4) (v := .ref (am 3)) (C := RX4) (T := TX4) (N := 8) hx hb hts hinX4 hown hK hP 0 rfl rfl 2 (by decide) q5 (fun _ h9 => h9) rfl dX4_carryOut_136 ?_
                    refine lv_iload_n hx hb dX4_carryOut_139 rfl (lv_at hl 1 rfl) ?_
                    refine lv_iload_n hx hb dX4_carryOut_140 rfl (lv_at hl 0 rfl) ?_
                    obtain ⟨hi13, hF⟩ := hF
                    refine va_iast hx hb hK hP hD hS 3 0 rfl rfl hi13 dX4_carryOut_141 (fun H locs hP hD hS => ?_)
                    have hP : va_P D vwCl (mdW cI am (va_up (va_up M.1 0 g12) 2 (upd (M.1 2) (y1).toNatClampNeg ((M.1 0) (y1).toNatClampNeg)), M.2)) H := hP
                    have hD : va_D A (mdW cI am (va_up (va_up M.1 0 g12) 2 (upd (M.1 2) (y1).toNatClampNeg ((M.1 0) (y1).toNatClampNeg)), M.2)) := hD
                    generalize eg14 : upd (M.1 2) (y1).toNatClampNeg ((M.1 0) (y1).toNatClampNeg) = g14 at hR hP hD hF
                    replace hR := bnd_e hR
                    replace hF := bnd_p hF
                    refine lv_iinc (v := y1 + 1) (lv' := [(1, .int (y1 + 1)), (2, .int ((M.1 0) (y1).toNatClampNeg)), (0, .ref (am 0))]) hx hb dX4_carryOut_142 hl (k := 1) rfl rfl (by decide) rfl (fun ls hl => ?_)
                    refine lv_goto (tgt := 109) hx hb dX4_carryOut_145 (by decide) ?_
                    exact ih109 (y1 + 1) (va_up (va_up M.1 0 g12) 2 g14, M.2) _ _ ls hR hF hP hD hS (lv_sub hl [0, 2] rfl)
              exact loop109 kfu 0 M _ _ ls hR hF hP hD hS (lv_sub hl [0, 1] rfl)
            · rw [if_neg c3] at hR hF
              refine lv_aload_n hx hb dX4_carryOut_78 rfl (lv_at hl 1 rfl) ?_
              refine lv_aload_n hx hb dX4_carryOut_79 rfl (lv_at hl 1 rfl) ?_
              refine va_get (D := D) (ci := 4) (v := .ref (am 4)) (C := RX4) (T := TX4) (N := 8) hx hb hts hinX4 hown hK hP 0 rfl rfl 5 (by decide) q3 (fun _ h9 => h9) rfl dX4_carryOut_80 ?_
              refine lv_iload_n hx hb dX4_carryOut_83 rfl (lv_at hl 0 rfl) ?_
              obtain ⟨hi15, hF⟩ := hF
              refine va_iald hx hb hK hP 4 0 rfl rfl hi15 dX4_carryOut_84 ?_
              obtain ⟨hs20, hF⟩ := hF
              refine kcI (ci := 4) (q0 := 0) (As := [.int ((M.1 3) (y1).toNatClampNeg)]) (rest := []) E.1 (cx4_does E am (M.1 4 0) (M.1 4 1) (M.1 4 2) M.2 (M.1 0) ((M.1 3) (y1).toNatClampNeg) hs20) hX (cwV 1 hts gX4_carryOut_X4_does rfl rfl rfl hdX4_does ⟨Nat.le_of_ble_eq_true rfl, Nat.le_of_ble_eq_true rfl⟩) hKs hK hP hD hS hA _ _ (md_mn cI am M) (md_mn' cI am M _) rfl rfl rfl rfl hl.1 (Nat.le_of_ble_eq_true rfl) dX4_carryOut_85 ⟨Nat.zero_le _, Nat.zero_le _⟩ (fun H locs hP hD hS => ?_)
              have hP : va_P D vwCl (mdW cI am (va_up M.1 0 ((fx4_does (M.1 0) ((M.1 3) (y1).toNatClampNeg)).2), M.2)) H := hP
              have hD : va_D A (mdW cI am (va_up M.1 0 ((fx4_does (M.1 0) ((M.1 3) (y1).toNatClampNeg)).2), M.2)) := hD
              generalize eu16 : fx4_does (M.1 0) ((M.1 3) (y1).toNatClampNeg) = u16 at hR hF hP hD ⊢
              replace hR := bnd_e hR
              replace hF := bnd_p hF
              refine lv_if_ne (tgt := 101) hx hb dX4_carryOut_88 (by decide) (fun c17 => ?_) (fun c17 => ?_)
              · rw [if_neg c17] at hR hF
                refine lv_iinc (v := y1 + 1) (lv' := [(1, .int (y1 + 1)), (0, .ref (am 0))]) hx hb dX4_carryOut_101 hl (k := 0) rfl rfl (by decide) rfl (fun ls hl => ?_)
                refine lv_goto (tgt := 70) hx hb dX4_carryOut_104 (by decide) ?_
                exact ih70 (y1 + 1) (va_up M.1 0 u16.2, M.2) _ _ ls hR hF hP hD hS (lv_sub hl [0, 1] rfl)
              · rw [if_pos c17] at hR hF
                refine lv_aload_n hx hb dX4_carryOut_91 rfl (lv_at hl 1 rfl) ?_
                have hs19 := hF
                refine kcV (ci := 4) (q0 := 0) (As := []) (rest := []) E.1 (cx4_takesBack E am (va_up M.1 0 u16.2, M.2) hs19) hX (cwV 0 hts gX4_carryOut_X4_takesBack rfl rfl rfl hdX4_takesBack ⟨Nat.le_of_ble_eq_true rfl, Nat.le_of_ble_eq_true rfl⟩) hKs hK hP hD hS hA _ _ (kw_self _) (kw_self _).symm rfl rfl rfl rfl hl.1 (Nat.le_of_ble_eq_true rfl) dX4_carryOut_92 ⟨Nat.zero_le _, Nat.zero_le _⟩ (fun H locs hP hD hS => ?_)
                have hP : va_P D vwCl (mdW cI am (fx4_takesBack (va_up M.1 0 u16.2, M.2))) H := hP
                have hD : va_D A (mdW cI am (fx4_takesBack (va_up M.1 0 u16.2, M.2))) := hD
                generalize eM18 : fx4_takesBack (va_up M.1 0 u16.2, M.2) = M18 at hR hP hD
                replace hR := bnd_e hR
                refine lv_sipush (v := (-1000)) hx hb dX4_carryOut_95 (by decide) ?_
                refine lv_iload_n hx hb dX4_carryOut_98 rfl (lv_at hl 0 rfl) ?_
                refine lv_isub hx hb dX4_carryOut_99 ?_
                subst hR
                exact krI hx hb hr hlk hP hD hS dX4_carryOut_100 rfl rfl
        exact loop70 kfu 0 M2 _ _ ls hR hF hP hD hS (lv_sub hl [0, 1] rfl)
      · rw [if_neg c1] at hR hF
        refine lv_aload_n hx hb dX4_carryOut_15 rfl (lv_at hl 1 rfl) ?_
        refine va_get (D := D) (ci := 4) (v := .ref (am 4)) (C := RX4) (T := TX4) (N := 8) hx hb hts hinX4 hown hK hP 0 rfl rfl 5 (by decide) q3 (fun _ h9 => h9) rfl dX4_carryOut_16 ?_
        refine lv_iload_n hx hb dX4_carryOut_19 rfl (lv_at hl 0 rfl) ?_
        obtain ⟨hi22, hF⟩ := hF
        refine va_iald hx hb hK hP 4 0 rfl rfl hi22 dX4_carryOut_20 ?_
        refine lv_bipush (v := 48) hx hb dX4_carryOut_21 (by decide) ?_
        refine lv_bipush (v := 51) hx hb dX4_carryOut_23 (by decide) ?_
        refine kcsI (As := [.int ((M.1 3) (y1).toNatClampNeg), .int 48, .int 51]) (rest := []) E.1 (cx4_within E ((M.1 3) (y1).toNatClampNeg) 48 51) hX (va_cwS 3 hts gX4_carryOut_X4_within rfl rfl rfl hdX4_within.2 ⟨Nat.le_of_ble_eq_true rfl, Nat.le_of_ble_eq_true rfl⟩) hKs hP hD hS hA _ _ (kw_nil _) (kw_nil _).symm rfl rfl hl.1 (Nat.le_of_ble_eq_true rfl) dX4_carryOut_25 ⟨Nat.zero_le _, Nat.zero_le _⟩ (fun H locs hP hD hS => ?_)
        refine lv_if_ne (tgt := 58) hx hb dX4_carryOut_28 (by decide) (fun c23 => ?_) (fun c23 => ?_)
        · rw [if_neg c23] at hR hF
          refine lv_iinc (v := y1 + 1) (lv' := [(1, .int (y1 + 1)), (0, .ref (am 0))]) hx hb dX4_carryOut_58 hl (k := 0) rfl rfl (by decide) rfl (fun ls hl => ?_)
          refine lv_goto (tgt := 7) hx hb dX4_carryOut_61 (by decide) ?_
          exact ih7 (y1 + 1) M _ _ ls hR hF hP hD hS (lv_sub hl [0, 1] rfl)
        · rw [if_pos c23] at hR hF
          refine lv_aload_n hx hb dX4_carryOut_31 rfl (lv_at hl 1 rfl) ?_
          refine va_get (D := D) (ci := 4) (v := .ref (am 4)) (C := RX4) (T := TX4) (N := 8) hx hb hts hinX4 hown hK hP 0 rfl rfl 5 (by decide) q3 (fun _ h9 => h9) rfl dX4_carryOut_32 ?_
          refine lv_iload_n hx hb dX4_carryOut_35 rfl (lv_at hl 0 rfl) ?_
          obtain ⟨hi24, hF⟩ := hF
          refine va_iald hx hb hK hP 4 0 rfl rfl hi24 dX4_carryOut_36 ?_
          refine lv_bipush (v := 46) hx hb dX4_carryOut_37 (by decide) ?_
          refine lv_icmp_eq (tgt := 58) hx hb dX4_carryOut_39 (by decide) (fun c25 => ?_) (fun c25 => ?_)
          · rw [if_pos c25] at hR hF
            refine lv_iinc (v := y1 + 1) (lv' := [(1, .int (y1 + 1)), (0, .ref (am 0))]) hx hb dX4_carryOut_58 hl (k := 0) rfl rfl (by decide) rfl (fun ls hl => ?_)
            refine lv_goto (tgt := 7) hx hb dX4_carryOut_61 (by decide) ?_
            exact ih7 (y1 + 1) M _ _ ls hR hF hP hD hS (lv_sub hl [0, 1] rfl)
          · rw [if_neg c25] at hR hF
            refine lv_aload_n hx hb dX4_carryOut_42 rfl (lv_at hl 1 rfl) ?_
            refine va_get (D := D) (ci := 4) (v := .ref (am 4)) (C := RX4) (T := TX4) (N := 8) hx hb hts hinX4 hown hK hP 0 rfl rfl 5 (by decide) q3 (fun _ h9 => h9) rfl dX4_carryOut_43 ?_
            refine lv_iload_n hx hb dX4_carryOut_46 rfl (lv_at hl 0 rfl) ?_
            obtain ⟨hi26, hF⟩ := hF
            refine va_iald hx hb hK hP 4 0 rfl rfl hi26 dX4_carryOut_47 ?_
            refine lv_bipush (v := 58) hx hb dX4_carryOut_48 (by decide) ?_
            refine lv_icmp_eq (tgt := 58) hx hb dX4_carryOut_50 (by decide) (fun c27 => ?_) (fun c27 => ?_)
            · rw [if_pos c27] at hR hF
              refine lv_iinc (v := y1 + 1) (lv' := [(1, .int (y1 + 1)), (0, .ref (am 0))]) hx hb dX4_carryOut_58 hl (k := 0) rfl rfl (by decide) rfl (fun ls hl => ?_)
              refine lv_goto (tgt := 7) hx hb dX4_carryOut_61 (by decide) ?_
              exact ih7 (y1 + 1) M _ _ ls hR hF hP hD hS (lv_sub hl [0, 1] rfl)
            · rw [if_neg c27] at hR hF
              refine lv_bipush (v := (-10)) hx hb dX4_carryOut_53 (by decide) ?_
              refine lv_iload_n hx hb dX4_carryOut_55 rfl (lv_at hl 0 rfl) ?_
              refine lv_isub hx hb dX4_carryOut_56 ?_
              subst hR
              exact krI hx hb hr hlk hP hD hS dX4_carryOut_57 rfl rfl
  exact loop7 kfu 0 (sset M.1 4 1 0, M.2) _ _ ls hR hF hP hD hS (lv_sub hl [0, 1] rfl)

theorem hdX4_mix : yX4_mix.cls = RX4 ∧ yX4_mix.cls ≠ "java/lang/invoke/MethodHandle" ∧ yX4_mix.cls ≠ "java/lang/invoke/VarHandle" ∧ (parseMethodDescriptor yX4_mix.desc).map (fun d => d.parameters.length) = some 1 := by decide +kernel
def fx4_mix (M : Md) (x1 : Int32) : Md := (M.1, (31 * M.2) + ((x1).toInt64))
set_option maxHeartbeats 4000000 in
set_option maxRecDepth 100000 in
theorem cx4_mix {l : Launch} {D : va_G} {cI cB cS cJ : ClassId} {K : State → Prop} (E : kE D cI cB cS cJ K) (am : Nat → Nat) (M : Md) (x1 : Int32) : kV l D K yX4_mix wsX4_mix 0 0 [.ref (am 0), .int x1] (mdW cI am M)  (mdW cI am (fx4_mix M x1)) := by
  refine kV_of (own := RX4) (cc := cX4_mix) (maxL := 2) (tys := kty cI cB cS cJ) (fun U h => (E.2 U h).1) (by decide) rfl rfl (Nat.le_of_ble_eq_true rfl) ?_
  intro p e s m below meth c A ls hx hb hr hml hts hown hlk hKs hK hP hD hA hS hl
  have hl : lv_has ls 2 [(0, .ref (am 0)), (1, .int x1)] := hl
  have hX : CallFix p m c cX4_mix 2 s _ wsX4_mix RX4 := ⟨hx, hb, hml, hown, hts⟩
  have hinX4 : ∀ w ∈ wsX40, w ∈ wsX4_mix := fun w h => List.mem_cons_of_mem _ (List.mem_append_right _ h)
  have q1 := hts (.constantLong RX4 134 (31)) (List.mem_of_getElem? (i := 1) rfl)
  have q2 := hts (.fieldLink RX4 136 "LabelStationModel" "hash" "J") (List.mem_of_getElem? (i := 2) rfl)
  generalize hR : fx4_mix M x1 = R
  rw [fx4_mix] at hR
  refine lv_aload_n hx hb dX4_mix_0 rfl (lv_at hl 0 rfl) ?_
  refine lv_ldc2 (v := 31) hx hb hown q1 dX4_mix_1 ?_
  refine lv_aload_n hx hb dX4_mix_4 rfl (lv_at hl 0 rfl) ?_
  refine va_get (D := D) (ci := 4) (v := .long M.2) (C := RX4) (T := TX4) (N := 8) hx hb hts hinX4 hown hK hP 0 rfl rfl 7 (by decide) q2 (fun _ h9 => h9) rfl dX4_mix_5 ?_
  refine lv_lmul hx hb dX4_mix_8 ?_
  refine lv_iload_n hx hb dX4_mix_9 rfl (lv_at hl 1 rfl) ?_
  refine lv_i2l hx hb dX4_mix_10 rfl ?_
  refine lv_ladd hx hb dX4_mix_11 ?_
  refine va_put (D := D) (ci := 4) (v := .long ((31 * M.2) + ((x1).toInt64))) (ty := .long) (C := RX4) (T := TX4) (N := 8) hx hb hts hinX4 tyX4 tyX4_ok nmX4 hown hK hP hD hS 0 rfl rfl 7 (by decide) q2 (fun _ h9 => h9) rfl (by decide +kernel) rfl rfl (Nat.le_of_ble_eq_true rfl) dX4_mix_12 (fun H locs hP hD hS => ?_)
  have hP : va_P D vwCl (mdW cI am (M.1, (31 * M.2) + ((x1).toInt64))) H := hP
  have hD : va_D A (mdW cI am (M.1, (31 * M.2) + ((x1).toInt64))) := hD
  subst hR
  exact krV hx hb hr hlk hP hD hS dX4_mix_15 rfl

theorem hdX4_mixAll : yX4_mixAll.cls = RX4 ∧ yX4_mixAll.cls ≠ "java/lang/invoke/MethodHandle" ∧ yX4_mixAll.cls ≠ "java/lang/invoke/VarHandle" ∧ (parseMethodDescriptor yX4_mixAll.desc).map (fun d => d.parameters.length) = some 2 := by decide +kernel
def fx4_mixAll_L2 : Nat → Int32 → Int32 → Int32 → Md → Md
  | 0, _, _, _, M => M
  | n2 + 1, y1, y2, y3, M => (if (y1 + y2) ≤ y3 then M else (bnd (fx4_mix M ((M.1 0) (y3).toNatClampNeg)) (fun M3 => fx4_mixAll_L2 n2 y1 y2 (y3 + 1) M3)))
def sx4_mixAll_L2 : Nat → Int32 → Int32 → Int32 → Md → Prop
  | 0, _, _, _, _ => False
  | n2 + 1, y1, y2, y3, M => (if (y1 + y2) ≤ y3 then True else (vp_in (y3) 1203 ∧ (bnd (fx4_mix M ((M.1 0) (y3).toNatClampNeg)) (fun M3 => sx4_mixAll_L2 n2 y1 y2 (y3 + 1) M3))))
def fx4_mixAll (M : Md) (x1 : Int32) (x2 : Int32) : Md := fx4_mixAll_L2 kfu x1 x2 x1 M
def sx4_mixAll (M : Md) (x1 : Int32) (x2 : Int32) : Prop := sx4_mixAll_L2 kfu x1 x2 x1 M
set_option maxHeartbeats 4000000 in
set_option maxRecDepth 100000 in
theorem cx4_mixAll {l : Launch} {D : va_G} {cI cB cS cJ : ClassId} {K : State → Prop} (E : kE D cI cB cS cJ K) (am : Nat → Nat) (M : Md) (x1 : Int32) (x2 : Int32) (hF : sx4_mixAll M x1 x2) : kV l D K yX4_mixAll wsX4_mixAll 1 21 [.ref (am 0), .int x1, .int x2] (mdW cI am M)  (mdW cI am (fx4_mixAll M x1 x2)) := by
  refine kV_of (own := RX4) (cc := cX4_mixAll) (maxL := 4) (tys := kty cI cB cS cJ) (fun U h => (E.2 U h).1) (by decide) rfl rfl (Nat.le_of_ble_eq_true rfl) ?_
  intro p e s m below meth c A ls hx hb hr hml hts hown hlk hKs hK hP hD hA hS hl
  have hl : lv_has ls 4 [(0, .ref (am 0)), (1, .int x1), (2, .int x2)] := hl
  have hX : CallFix p m c cX4_mixAll 4 s _ wsX4_mixAll RX4 := ⟨hx, hb, hml, hown, hts⟩
  have hinX4 : ∀ w ∈ wsX40, w ∈ wsX4_mixAll := fun w h => List.mem_cons_of_mem _ (List.mem_append_right _ h)
  have q1 := hts (.fieldLink RX4 7 "LabelStationModel" "now" "[I") (List.mem_of_getElem? (i := 1) rfl)
  generalize hR : fx4_mixAll M x1 x2 = R
  rw [fx4_mixAll] at hR
  rw [sx4_mixAll] at hF
  refine lv_iload_n hx hb dX4_mixAll_0 rfl (lv_at hl 1 rfl) ?_
  refine lv_istore_n (lv' := [(3, .int x1), (0, .ref (am 0)), (1, .int x1), (2, .int x2)]) hx hb dX4_mixAll_1 rfl hl (by decide) rfl (fun ls hl => ?_)
  have loop2 : ∀ (n2 : Nat) (y1 : Int32) (y2 : Int32) (y3 : Int32) (M : Md) (H : Heap) (locs : List Loc) (ls : Array Slot), fx4_mixAll_L2 n2 y1 y2 y3 M = R → sx4_mixAll_L2 n2 y1 y2 y3 M → va_P D vwCl (mdW cI am M) H → va_D A (mdW cI am M) → va_S A s.heap H locs → lv_has ls 4 [(1, .int y1), (2, .int y2), (3, .int y3), (0, .ref (am 0))] → W p l e (kRm 1 21) s m ([.ref (am 0), .int x1, .int x2] : List Value).toArray below meth c H locs 0 0 (kQV D below (mdW cI am R) A ([.ref (am 0), .int x1, .int x2] : List Value).toArray s) (F0 m 2 ls []) := by
    intro n2
    induction n2 with
    | zero => intro y1 y2 y3 M H locs ls hR hF; exact hF.elim
    | succ n2 ih2 =>
      intro y1 y2 y3 M H locs ls hR hF hP hD hS hl
      rw [fx4_mixAll_L2] at hR
      rw [sx4_mixAll_L2] at hF
      refine lv_iload_n hx hb dX4_mixAll_2 rfl (lv_at hl 2 rfl) ?_
      refine lv_iload_n hx hb dX4_mixAll_3 rfl (lv_at hl 0 rfl) ?_
      refine lv_iload_n hx hb dX4_mixAll_4 rfl (lv_at hl 1 rfl) ?_
      refine lv_iadd hx hb dX4_mixAll_5 ?_
      refine lv_icmp_ge (tgt := 25) hx hb dX4_mixAll_6 (by decide) (fun c1 => ?_) (fun c1 => ?_)
      · rw [if_pos c1] at hR hF
        subst hR
        exact krV hx hb hr hlk hP hD hS dX4_mixAll_25 rfl
      · rw [if_neg c1] at hR hF
        refine lv_aload_n hx hb dX4_mixAll_9 rfl (lv_at hl 3 rfl) ?_
        refine lv_aload_n hx hb dX4_mixAll_10 rfl (lv_at hl 3 rfl) ?_
        refine va_get (D := D) (ci := 4) (v := .ref (am 1)) (C := RX4) (T := TX4) (N := 8) hx hb hts hinX4 hown hK hP 0 rfl rfl 0 (by decide) q1 (fun _ h9 => h9) rfl dX4_mixAll_11 ?_
        refine lv_iload_n hx hb dX4_mixAll_14 rfl (lv_at hl 2 rfl) ?_
        obtain ⟨hi2, hF⟩ := hF
        refine va_iald hx hb hK hP 1 0 rfl rfl hi2 dX4_mixAll_15 ?_
        refine kcV (ci := 4) (q0 := 0) (As := [.int ((M.1 0) (y3).toNatClampNeg)]) (rest := []) E.1 (cx4_mix E am M ((M.1 0) (y3).toNatClampNeg)) hX (cwV 1 hts gX4_mixAll_X4_mix rfl rfl rfl hdX4_mix ⟨Nat.le_of_ble_eq_true rfl, Nat.le_of_ble_eq_true rfl⟩) hKs hK hP hD hS hA _ _ (kw_self _) (kw_self _).symm rfl rfl rfl rfl hl.1 (Nat.le_of_ble_eq_true rfl) dX4_mixAll_16 ⟨Nat.zero_le _, Nat.zero_le _⟩ (fun H locs hP hD hS => ?_)
        have hP : va_P D vwCl (mdW cI am (fx4_mix M ((M.1 0) (y3).toNatClampNeg))) H := hP
        have hD : va_D A (mdW cI am (fx4_mix M ((M.1 0) (y3).toNatClampNeg))) := hD
        generalize eM3 : fx4_mix M ((M.1 0) (y3).toNatClampNeg) = M3 at hR hF hP hD
        replace hR := bnd_e hR
        replace hF := bnd_p hF
        refine lv_iinc (v := y3 + 1) (lv' := [(3, .int (y3 + 1)), (1, .int y1), (2, .int y2), (0, .ref (am 0))]) hx hb dX4_mixAll_19 hl (k := 2) rfl rfl (by decide) rfl (fun ls hl => ?_)
        refine lv_goto (tgt := 2) hx hb dX4_mixAll_22 (by decide) ?_
        exact ih2 y1 y2 (y3 + 1) M3 _ _ ls hR hF hP hD hS (lv_sub hl [1, 2, 0, 3] rfl)
  exact loop2 kfu x1 x2 x1 M _ _ ls hR hF hP hD hS (lv_sub hl [2, 3, 0, 1] rfl)

theorem hdX4_digest : yX4_digest.cls = RX4 ∧ yX4_digest.cls ≠ "java/lang/invoke/MethodHandle" ∧ yX4_digest.cls ≠ "java/lang/invoke/VarHandle" ∧ (parseMethodDescriptor yX4_digest.desc).map (fun d => d.parameters.length) = some 0 := by decide +kernel
def fx4_digest_L40 : Nat → Int32 → Md → Int64 × (Md)
  | 0, _, M => (0, M)
  | n40 + 1, y1, M => (if 8 ≤ y1 then (bnd (fx4_mixAll M 17 18) (fun M5 => (bnd (fx4_mixAll M5 37 (4 * ((M5.1 0) 36))) (fun M6 => (bnd (fx4_mixAll M6 118 (6 * ((M6.1 0) 117))) (fun M7 => (bnd (fx4_mix M7 (M7.1 4 0)) (fun M8 => (M8.2, M8))))))))) else (bnd (fx4_tellStatus (M.1 0) y1) (fun v12 => (bnd (fx4_mix M v12) (fun M13 => fx4_digest_L40 n40 (y1 + 1) M13)))))
def sx4_digest_L40 : Nat → Int32 → Md → Prop
  | 0, _, _ => False
  | n40 + 1, y1, M => (if 8 ≤ y1 then (sx4_mixAll M 17 18 ∧ (bnd (fx4_mixAll M 17 18) (fun M5 => (sx4_mixAll M5 37 (4 * ((M5.1 0) 36)) ∧ (bnd (fx4_mixAll M5 37 (4 * ((M5.1 0) 36))) (fun M6 => sx4_mixAll M6 118 (6 * ((M6.1 0) 117)))))))) else (bnd (fx4_tellStatus (M.1 0) y1) (fun v12 => (bnd (fx4_mix M v12) (fun M13 => sx4_digest_L40 n40 (y1 + 1) M13)))))
def fx4_digest (M : Md) : Int64 × (Md) := (bnd (fx4_mix (sset M.1 4 1 0, 2939) (M.1 4 2)) (fun M1 => (bnd (fx4_mixAll M1 0 13) (fun M2 => (bnd (fx4_mix M2 ((M2.1 0) 13)) (fun M3 => fx4_digest_L40 kfu 0 M3))))))
def sx4_digest (M : Md) : Prop := (bnd (fx4_mix (sset M.1 4 1 0, 2939) (M.1 4 2)) (fun M1 => (sx4_mixAll M1 0 13 ∧ (bnd (fx4_mixAll M1 0 13) (fun M2 => (bnd (fx4_mix M2 ((M2.1 0) 13)) (fun M3 => sx4_digest_L40 kfu 0 M3)))))))
set_option maxHeartbeats 4000000 in
set_option maxRecDepth 100000 in
theorem cx4_digest {l : Launch} {D : va_G} {cI cB cS cJ : ClassId} {K : State → Prop} (E : kE D cI cB cS cJ K) (am : Nat → Nat) (M : Md) (hF : sx4_digest M) : kJ l D K yX4_digest wsX4_digest 2 44 [.ref (am 0)] (mdW cI am M) (fx4_digest M).1 (mdW cI am ((fx4_digest M).2)) := by
  refine kJ_of (own := RX4) (cc := cX4_digest) (maxL := 2) (tys := kty cI cB cS cJ) (fun U h => (E.2 U h).1) (by decide) rfl rfl (Nat.le_of_ble_eq_true rfl) ?_
  intro p e s m below meth c A ls hx hb hr hml hts hown hlk hKs hK hP hD hA hS hl
  have hl : lv_has ls 2 [(0, .ref (am 0))] := hl
  have hX : CallFix p m c cX4_digest 2 s _ wsX4_digest RX4 := ⟨hx, hb, hml, hown, hts⟩
  have hinX4 : ∀ w ∈ wsX40, w ∈ wsX4_digest := fun w h => List.mem_cons_of_mem _ (List.mem_append_right _ h)
  have q1 := hts (.fieldLink RX4 22 "LabelStationModel" "refusal" "I") (List.mem_of_getElem? (i := 1) rfl)
  have q2 := hts (.constantLong RX4 143 (2939)) (List.mem_of_getElem? (i := 2) rfl)
  have q3 := hts (.fieldLink RX4 136 "LabelStationModel" "hash" "J") (List.mem_of_getElem? (i := 3) rfl)
  have q4 := hts (.fieldLink RX4 128 "LabelStationModel" "length" "I") (List.mem_of_getElem? (i := 4) rfl)
  have q5 := hts (.fieldLink RX4 7 "LabelStationModel" "now" "[I") (List.mem_of_getElem? (i := 5) rfl)
  have q6 := hts (.fieldLink RX4 26 "LabelStationModel" "saved" "I") (List.mem_of_getElem? (i := 6) rfl)
  generalize hR : fx4_digest M = R
  rw [fx4_digest] at hR
  rw [sx4_digest] at hF
  refine lv_aload_n hx hb dX4_digest_0 rfl (lv_at hl 0 rfl) ?_
  refine lv_iconst (v := 0) hx hb dX4_digest_1 (by decide) ?_
  refine va_put (D := D) (ci := 4) (v := .int 0) (ty := .int) (C := RX4) (T := TX4) (N := 8) hx hb hts hinX4 tyX4 tyX4_ok nmX4 hown hK hP hD hS 0 rfl rfl 4 (by decide) q1 (fun _ h9 => h9) rfl (by decide +kernel) rfl rfl (Nat.le_of_ble_eq_true rfl) dX4_digest_2 (fun H locs hP hD hS => ?_)
  have hP : va_P D vwCl (mdW cI am (sset M.1 4 1 0, M.2)) H := hP
  have hD : va_D A (mdW cI am (sset M.1 4 1 0, M.2)) := hD
  refine lv_aload_n hx hb dX4_digest_5 rfl (lv_at hl 0 rfl) ?_
  refine lv_ldc2 (v := 2939) hx hb hown q2 dX4_digest_6 ?_
  refine va_put (D := D) (ci := 4) (v := .long 2939) (ty := .long) (C := RX4) (T := TX4) (N := 8) hx hb hts hinX4 tyX4 tyX4_ok nmX4 hown hK hP hD hS 0 rfl rfl 7 (by decide) q3 (fun _ h9 => h9) rfl (by decide +kernel) rfl rfl (Nat.le_of_ble_eq_true rfl) dX4_digest_9 (fun H locs hP hD hS => ?_)
  have hP : va_P D vwCl (mdW cI am (sset M.1 4 1 0, 2939)) H := hP
  have hD : va_D A (mdW cI am (sset M.1 4 1 0, 2939)) := hD
  refine lv_aload_n hx hb dX4_digest_12 rfl (lv_at hl 0 rfl) ?_
  refine lv_aload_n hx hb dX4_digest_13 rfl (lv_at hl 0 rfl) ?_
  refine va_get (D := D) (ci := 4) (v := .int (M.1 4 2)) (C := RX4) (T := TX4) (N := 8) hx hb hts hinX4 hown hK hP 0 rfl rfl 6 (by decide) q4 (fun _ h9 => h9) rfl dX4_digest_14 ?_
  refine kcV (ci := 4) (q0 := 0) (As := [.int (M.1 4 2)]) (rest := []) E.1 (cx4_mix E am (sset M.1 4 1 0, 2939) (M.1 4 2)) hX (cwV 1 hts gX4_digest_X4_mix rfl rfl rfl hdX4_mix ⟨Nat.le_of_ble_eq_true rfl, Nat.le_of_ble_eq_true rfl⟩) hKs hK hP hD hS hA _ _ (kw_self _) (kw_self _).symm rfl rfl rfl rfl hl.1 (Nat.le_of_ble_eq_true rfl) dX4_digest_17 ⟨Nat.zero_le _, Nat.zero_le _⟩ (fun H locs hP hD hS => ?_)
  have hP : va_P D vwCl (mdW cI am (fx4_mix (sset M.1 4 1 0, 2939) (M.1 4 2))) H := hP
  have hD : va_D A (mdW cI am (fx4_mix (sset M.1 4 1 0, 2939) (M.1 4 2))) := hD
  generalize eM1 : fx4_mix (sset M.1 4 1 0, 2939) (M.1 4 2) = M1 at hR hF hP hD
  replace hR := bnd_e hR
  replace hF := bnd_p hF
  refine lv_aload_n hx hb dX4_digest_20 rfl (lv_at hl 0 rfl) ?_
  refine lv_iconst (v := 0) hx hb dX4_digest_21 (by decide) ?_
  refine lv_bipush (v := 13) hx hb dX4_digest_22 (by decide) ?_
  obtain ⟨hs14, hF⟩ := hF
  refine kcV (ci := 4) (q0 := 0) (As := [.int 0, .int 13]) (rest := []) E.1 (cx4_mixAll E am M1 0 13 hs14) hX (cwV 2 hts gX4_digest_X4_mixAll rfl rfl rfl hdX4_mixAll ⟨Nat.le_of_ble_eq_true rfl, Nat.le_of_ble_eq_true rfl⟩) hKs hK hP hD hS hA _ _ (kw_self _) (kw_self _).symm rfl rfl rfl rfl hl.1 (Nat.le_of_ble_eq_true rfl) dX4_digest_24 ⟨Nat.zero_le _, Nat.zero_le _⟩ (fun H locs hP hD hS => ?_)
  have hP : va_P D vwCl (mdW cI am (fx4_mixAll M1 0 13)) H := hP
  have hD : va_D A (mdW cI am (fx4_mixAll M1 0 13)) := hD
  generalize eM2 : fx4_mixAll M1 0 13 = M2 at hR hF hP hD
  replace hR := bnd_e hR
  replace hF := bnd_p hF
  refine lv_aload_n hx hb dX4_digest_27 rfl (lv_at hl 0 rfl) ?_
  refine lv_aload_n hx hb dX4_digest_28 rfl (lv_at hl 0 rfl) ?_
  refine va_get (D := D) (ci := 4) (v := .ref (am 1)) (C := RX4) (T := TX4) (N := 8) hx hb hts hinX4 hown hK hP 0 rfl rfl 0 (by decide) q5 (fun _ h9 => h9) rfl dX4_digest_29 ?_
  refine lv_bipush (v := 13) hx hb dX4_digest_32 (by decide) ?_
  refine va_iald hx hb hK hP 1 0 rfl rfl (kin_lit (j := 13) (n := 1203) (by decide) (by decide)) dX4_digest_34 ?_
  refine kw_top (v := .int ((M2.1 0) 13)) rfl ?_
  refine kcV (ci := 4) (q0 := 0) (As := [.int ((M2.1 0) 13)]) (rest := []) E.1 (cx4_mix E am M2 ((M2.1 0) 13)) hX (cwV 1 hts gX4_digest_X4_mix rfl rfl rfl hdX4_mix ⟨Nat.le_of_ble_eq_true rfl, Nat.le_of_ble_eq_true rfl⟩) hKs hK hP hD hS hA _ _ (kw_self _) (kw_self _).symm rfl rfl rfl rfl hl.1 (Nat.le_of_ble_eq_true rfl) dX4_digest_35 ⟨Nat.zero_le _, Nat.zero_le _⟩ (fun H locs hP hD hS => ?_)
  have hP : va_P D vwCl (mdW cI am (fx4_mix M2 ((M2.1 0) 13))) H := hP
  have hD : va_D A (mdW cI am (fx4_mix M2 ((M2.1 0) 13))) := hD
  generalize eM3 : fx4_mix M2 ((M2.1 0) 13) = M3 at hR hF hP hD
  replace hR := bnd_e hR
  replace hF := bnd_p hF
  refine lv_iconst (v := 0) hx hb dX4_digest_38 (by decide) ?_
  refine lv_istore_n (lv' := [(1, .int 0), (0, .ref (am 0))]) hx hb dX4_digest_39 rfl hl (by decide) rfl (fun ls hl => ?_)
  have loop40 : ∀ (n40 : Nat) (y1 : Int32) (M : Md) (H : Heap) (locs : List Loc) (ls : Array Slot), fx4_digest_L40 n40 y1 M = R → sx4_digest_L40 n40 y1 M → va_P D vwCl (mdW cI am M) H → va_D A (mdW cI am M) → va_S A s.heap H locs → lv_has ls 2 [(1, .int y1), (0, .ref (am 0))] → W p l e (kRm 2 44) s m ([.ref (am 0)] : List Value).toArray below meth c H locs 0 0 (kQJ D below R.1 (mdW cI am R.2) A ([.ref (am 0)] : List Value).toArray s) (F0 m 40 ls []) := by
    intro n40
    induction n40 with
    | zero => intro y1 M H locs ls hR hF; exact hF.elim
    | succ n40 ih40 =>
      intro y1 M H locs ls hR hF hP hD hS hl
      rw [fx4_digest_L40] at hR
      rw [sx4_digest_L40] at hF
      refine lv_iload_n hx hb dX4_digest_40 rfl (lv_at hl 0 rfl) ?_
      refine lv_bipush (v := 8) hx hb dX4_digest_41 (by decide) ?_
      refine lv_icmp_ge (tgt := 61) hx hb dX4_digest_43 (by decide) (fun c4 => ?_) (fun c4 => ?_)
      · rw [if_pos c4] at hR hF
        refine lv_aload_n hx hb dX4_digest_61 rfl (lv_at hl 1 rfl) ?_
        refine lv_bipush (v := 17) hx hb dX4_digest_62 (by decide) ?_
        refine lv_bipush (v := 18) hx hb dX4_digest_64 (by decide) ?_
        obtain ⟨hs11, hF⟩ := hF
        refine kcV (ci := 4) (q0 := 0) (As := [.int 17, .int 18]) (rest := []) E.1 (cx4_mixAll E am M 17 18 hs11) hX (cwV 2 hts gX4_digest_X4_mixAll rfl rfl rfl hdX4_mixAll ⟨Nat.le_of_ble_eq_true rfl, Nat.le_of_ble_eq_true rfl⟩) hKs hK hP hD hS hA _ _ (kw_self _) (kw_self _).symm rfl rfl rfl rfl hl.1 (Nat.le_of_ble_eq_true rfl) dX4_digest_66 ⟨Nat.zero_le _, Nat.zero_le _⟩ (fun H locs hP hD hS => ?_)
        have hP : va_P D vwCl (mdW cI am (fx4_mixAll M 17 18)) H := hP
        have hD : va_D A (mdW cI am (fx4_mixAll M 17 18)) := hD
        generalize eM5 : fx4_mixAll M 17 18 = M5 at hR hF hP hD
        replace hR := bnd_e hR
        replace hF := bnd_p hF
        refine lv_aload_n hx hb dX4_digest_69 rfl (lv_at hl 1 rfl) ?_
        refine lv_bipush (v := 37) hx hb dX4_digest_70 (by decide) ?_
        refine lv_iconst (v := 4) hx hb dX4_digest_72 (by decide) ?_
        refine lv_aload_n hx hb dX4_digest_73 rfl (lv_at hl 1 rfl) ?_
        refine va_get (D := D) (ci := 4) (v := .ref (am 1)) (C := RX4) (T := TX4) (N := 8) hx hb hts hinX4 hown hK hP 0 rfl rfl 0 (by decide) q5 (fun _ h9 => h9) rfl dX4_digest_74 ?_
        refine lv_bipush (v := 36) hx hb dX4_digest_77 (by decide) ?_
        refine va_iald hx hb hK hP 1 0 rfl rfl (kin_lit (j := 36) (n := 1203) (by decide) (by decide)) dX4_digest_79 ?_
        refine kw_top (v := .int ((M5.1 0) 36)) rfl ?_
        refine lv_imul hx hb dX4_digest_80 ?_
        obtain ⟨hs10, hF⟩ := hF
        refine kcV (ci := 4) (q0 := 0) (As := [.int 37, .int (4 * ((M5.1 0) 36))]) (rest := []) E.1 (cx4_mixAll E am M5 37 (4 * ((M5.1 0) 36)) hs10) hX (cwV 2 hts gX4_digest_X4_mixAll rfl rfl rfl hdX4_mixAll ⟨Nat.le_of_ble_eq_true rfl, Nat.le_of_ble_eq_true rfl⟩) hKs hK hP hD hS hA _ _ (kw_self _) (kw_self _).symm rfl rfl rfl rfl hl.1 (Nat.le_of_ble_eq_true rfl) dX4_digest_81 ⟨Nat.zero_le _, Nat.zero_le _⟩ (fun H locs hP hD hS => ?_)
        have hP : va_P D vwCl (mdW cI am (fx4_mixAll M5 37 (4 * ((M5.1 0) 36)))) H := hP
        have hD : va_D A (mdW cI am (fx4_mixAll M5 37 (4 * ((M5.1 0) 36)))) := hD
        generalize eM6 : fx4_mixAll M5 37 (4 * ((M5.1 0) 36)) = M6 at hR hF hP hD
        replace hR := bnd_e hR
        replace hF := bnd_p hF
        refine lv_aload_n hx hb dX4_digest_84 rfl (lv_at hl 1 rfl) ?_
        refine lv_bipush (v := 118) hx hb dX4_digest_85 (by decide) ?_
        refine lv_bipush (v := 6) hx hb dX4_digest_87 (by decide) ?_
        refine lv_aload_n hx hb dX4_digest_89 rfl (lv_at hl 1 rfl) ?_
        refine va_get (D := D) (ci := 4) (v := .ref (am 1)) (C := RX4) (T := TX4) (N := 8) hx hb hts hinX4 hown hK hP 0 rfl rfl 0 (by decide) q5 (fun _ h9 => h9) rfl dX4_digest_90 ?_
        refine lv_bipush (v := 117) hx hb dX4_digest_93 (by decide) ?_
        refine va_iald hx hb hK hP 1 0 rfl rfl (kin_lit (j := 117) (n := 1203) (by decide) (by decide)) dX4_digest_95 ?_
        refine kw_top (v := .int ((M6.1 0) 117)) rfl ?_
        refine lv_imul hx hb dX4_digest_96 ?_
        have hs9 := hF
        refine kcV (ci := 4) (q0 := 0) (As := [.int 118, .int (6 * ((M6.1 0) 117))]) (rest := []) E.1 (cx4_mixAll E am M6 118 (6 * ((M6.1 0) 117)) hs9) hX (cwV 2 hts gX4_digest_X4_mixAll rfl rfl rfl hdX4_mixAll ⟨Nat.le_of_ble_eq_true rfl, Nat.le_of_ble_eq_true rfl⟩) hKs hK hP hD hS hA _ _ (kw_self _) (kw_self _).symm rfl rfl rfl rfl hl.1 (Nat.le_of_ble_eq_true rfl) dX4_digest_97 ⟨Nat.zero_le _, Nat.zero_le _⟩ (fun H locs hP hD hS => ?_)
        have hP : va_P D vwCl (mdW cI am (fx4_mixAll M6 118 (6 * ((M6.1 0) 117)))) H := hP
        have hD : va_D A (mdW cI am (fx4_mixAll M6 118 (6 * ((M6.1 0) 117)))) := hD
        generalize eM7 : fx4_mixAll M6 118 (6 * ((M6.1 0) 117)) = M7 at hR hP hD
        replace hR := bnd_e hR
        refine lv_aload_n hx hb dX4_digest_100 rfl (lv_at hl 1 rfl) ?_
        refine lv_aload_n hx hb dX4_digest_101 rfl (lv_at hl 1 rfl) ?_
        refine va_get (D := D) (ci := 4) (v := .int (M7.1 4 0)) (C := RX4) (T := TX4) (N := 8) hx hb hts hinX4 hown hK hP 0 rfl rfl 3 (by decide) q6 (fun _ h9 => h9) rfl dX4_digest_102 ?_
        refine kcV (ci := 4) (q0 := 0) (As := [.int (M7.1 4 0)]) (rest := []) E.1 (cx4_mix E am M7 (M7.1 4 0)) hX (cwV 1 hts gX4_digest_X4_mix rfl rfl rfl hdX4_mix ⟨Nat.le_of_ble_eq_true rfl, Nat.le_of_ble_eq_true rfl⟩) hKs hK hP hD hS hA _ _ (kw_self _) (kw_self _).symm rfl rfl rfl rfl hl.1 (Nat.le_of_ble_eq_true rfl) dX4_digest_105 ⟨Nat.zero_le _, Nat.zero_le _⟩ (fun H locs hP hD hS => ?_)
        have hP : va_P D vwCl (mdW cI am (fx4_mix M7 (M7.1 4 0))) H := hP
        have hD : va_D A (mdW cI am (fx4_mix M7 (M7.1 4 0))) := hD
        generalize eM8 : fx4_mix M7 (M7.1 4 0) = M8 at hR hP hD
        replace hR := bnd_e hR
        refine lv_aload_n hx hb dX4_digest_108 rfl (lv_at hl 1 rfl) ?_
        refine va_get (D := D) (ci := 4) (v := .long M8.2) (C := RX4) (T := TX4) (N := 8) hx hb hts hinX4 hown hK hP 0 rfl rfl 7 (by decide) q3 (fun _ h9 => h9) rfl dX4_digest_109 ?_
        subst hR
        exact krJ hx hb hr hlk hP hD hS dX4_digest_112 rfl rfl
      · rw [if_neg c4] at hR hF
        refine lv_aload_n hx hb dX4_digest_46 rfl (lv_at hl 1 rfl) ?_
        refine lv_aload_n hx hb dX4_digest_47 rfl (lv_at hl 1 rfl) ?_
        refine lv_iload_n hx hb dX4_digest_48 rfl (lv_at hl 0 rfl) ?_
        refine kcI (ci := 4) (q0 := 0) (As := [.int y1]) (rest := [.ref (am 0)]) E.1 (cx4_tellStatus E am (M.1 4 0) (M.1 4 1) (M.1 4 2) M.2 (M.1 0) y1) hX (cwV 1 hts gX4_digest_X4_tellStatus rfl rfl rfl hdX4_tellStatus ⟨Nat.le_of_ble_eq_true rfl, Nat.le_of_ble_eq_true rfl⟩) hKs hK hP hD hS hA _ _ (md_mn cI am M) (md_mn cI am M).symm rfl rfl rfl rfl hl.1 (Nat.le_of_ble_eq_true rfl) dX4_digest_49 ⟨Nat.zero_le _, Nat.zero_le _⟩ (fun H locs hP hD hS => ?_)
        generalize ev12 : fx4_tellStatus (M.1 0) y1 = v12 at hR hF ⊢
        replace hR := bnd_e hR
        replace hF := bnd_p hF
        refine kcV (ci := 4) (q0 := 0) (As := [.int v12]) (rest := []) E.1 (cx4_mix E am M v12) hX (cwV 1 hts gX4_digest_X4_mix rfl rfl rfl hdX4_mix ⟨Nat.le_of_ble_eq_true rfl, Nat.le_of_ble_eq_true rfl⟩) hKs hK hP hD hS hA _ _ (kw_self _) (kw_self _).symm rfl rfl rfl rfl hl.1 (Nat.le_of_ble_eq_true rfl) dX4_digest_52 ⟨Nat.zero_le _, Nat.zero_le _⟩ (fun H locs hP hD hS => ?_)
        have hP : va_P D vwCl (mdW cI am (fx4_mix M v12)) H := hP
        have hD : va_D A (mdW cI am (fx4_mix M v12)) := hD
        generalize eM13 : fx4_mix M v12 = M13 at hR hF hP hD
        replace hR := bnd_e hR
        replace hF := bnd_p hF
        refine lv_iinc (v := y1 + 1) (lv' := [(1, .int (y1 + 1)), (0, .ref (am 0))]) hx hb dX4_digest_55 hl (k := 0) rfl rfl (by decide) rfl (fun ls hl => ?_)
        refine lv_goto (tgt := 40) hx hb dX4_digest_58 (by decide) ?_
        exact ih40 (y1 + 1) M13 _ _ ls hR hF hP hD hS (lv_sub hl [0, 1] rfl)
  exact loop40 kfu 0 M3 _ _ ls hR hF hP hD hS (lv_sub hl [0, 1] rfl)

theorem hdX4_undo : yX4_undo.cls = RX4 ∧ yX4_undo.cls ≠ "java/lang/invoke/MethodHandle" ∧ yX4_undo.cls ≠ "java/lang/invoke/VarHandle" ∧ (parseMethodDescriptor yX4_undo.desc).map (fun d => d.parameters.length) = some 0 := by decide +kernel
def fx4_undo_L33 : Nat → Int32 → Md → Int32 × (Md)
  | 0, _, M => (0, M)
  | n33 + 1, y1, M => (if 1203 ≤ y1 then (M.1 4 0, M) else (bnd (upd (M.1 0) (y1).toNatClampNeg ((M.1 1) ((1203 * (M.1 4 0)) + y1).toNatClampNeg)) (fun g7 => fx4_undo_L33 n33 (y1 + 1) (va_up M.1 0 g7, M.2))))
def sx4_undo_L33 : Nat → Int32 → Md → Prop
  | 0, _, _ => False
  | n33 + 1, y1, M => (if 1203 ≤ y1 then True else (vp_in ((1203 * (M.1 4 0)) + y1) 4812 ∧ (vp_in (y1) 1203 ∧ (bnd (upd (M.1 0) (y1).toNatClampNeg ((M.1 1) ((1203 * (M.1 4 0)) + y1).toNatClampNeg)) (fun g7 => sx4_undo_L33 n33 (y1 + 1) (va_up M.1 0 g7, M.2))))))
def fx4_undo_L33 : Nat → Int32 → Md → Int32 × (Md)
  | 0, _, M => (0, M)
  | n33 + 1, y1, M => (if 1203 ≤ y1 then (M.1 4 0, M) else (bnd (upd (M.1 0) (y1).toNatClampNeg ((M.1 1) ((1203 * (M.1 4 0)) + y1).toNatClampNeg)) (fun g13 => fx4_undo_L33 n33 (y1 + 1) (va_up M.1 0 g13, M.2))))
def sx4_undo_L33 : Nat → Int32 → Md → Prop
  | 0, _, _ => False
  | n33 + 1, y1, M => (if 1203 ≤ y1 then True else (vp_in ((1203 * (M.1 4 0)) + y1) 4812 ∧ (vp_in (y1) 1203 ∧ (bnd (upd (M.1 0) (y1).toNatClampNeg ((M.1 1) ((1203 * (M.1 4 0)) + y1).toNatClampNeg)) (fun g13 => sx4_undo_L33 n33 (y1 + 1) (va_up M.1 0 g13, M.2))))))
def fx4_undo (M : Md) : Int32 × (Md) := (if (M.1 4 0) = 0 then (bnd (fx4_refused M 1) (fun u2 => (if u2.1 = 0 then fx4_undo_L33 kfu 0 (sset u2.2.1 4 0 ((u2.2.1 4 0) - 1), u2.2.2) else (0, u2.2)))) else (bnd (fx4_refused M 0) (fun u8 => (if u8.1 = 0 then fx4_undo_L33 kfu 0 (sset u8.2.1 4 0 ((u8.2.1 4 0) - 1), u8.2.2) else (0, u8.2)))))
def sx4_undo (M : Md) : Prop := (if (M.1 4 0) = 0 then (bnd (fx4_refused M 1) (fun u2 => (if u2.1 = 0 then sx4_undo_L33 kfu 0 (sset u2.2.1 4 0 ((u2.2.1 4 0) - 1), u2.2.2) else True))) else (bnd (fx4_refused M 0) (fun u8 => (if u8.1 = 0 then sx4_undo_L33 kfu 0 (sset u8.2.1 4 0 ((u8.2.1 4 0) - 1), u8.2.2) else True))))
set_option maxHeartbeats 4000000 in
set_option maxRecDepth 100000 in
theorem cx4_undo {l : Launch} {D : va_G} {cI cB cS cJ : ClassId} {K : State → Prop} (E : kE D cI cB cS cJ K) (am : Nat → Nat) (M : Md) (hF : sx4_undo M) : kI l D K yX4_undo wsX4_undo 1 21 [.ref (am 0)] (mdW cI am M) (fx4_undo M).1 (mdW cI am ((fx4_undo M).2)) := by
  refine kI_of (own := RX4) (cc := cX4_undo) (maxL := 2) (tys := kty cI cB cS cJ) (fun U h => (E.2 U h).1) (by decide) rfl rfl (Nat.le_of_ble_eq_true rfl) ?_
  intro p e s m below meth c A ls hx hb hr hml hts hown hlk hKs hK hP hD hA hS hl
  have hl : lv_has ls 2 [(0, .ref (am 0))] := hl
  have hX : CallFix p m c cX4_undo 2 s _ wsX4_undo RX4 := ⟨hx, hb, hml, hown, hts⟩
  have hinX4 : ∀ w ∈ wsX40, w ∈ wsX4_undo := fun w h => List.mem_cons_of_mem _ (List.mem_append_right _ h)
  have q1 := hts (.fieldLink RX4 26 "LabelStationModel" "saved" "I") (List.mem_of_getElem? (i := 1) rfl)
  have q2 := hts (.fieldLink RX4 7 "LabelStationModel" "now" "[I") (List.mem_of_getElem? (i := 2) rfl)
  have q3 := hts (.fieldLink RX4 13 "LabelStationModel" "past" "[I") (List.mem_of_getElem? (i := 3) rfl)
  generalize hR : fx4_undo M = R
  rw [fx4_undo] at hR
  rw [sx4_undo] at hF
  refine lv_aload_n hx hb dX4_undo_0 rfl (lv_at hl 0 rfl) ?_
  refine lv_aload_n hx hb dX4_undo_1 rfl (lv_at hl 0 rfl) ?_
  refine va_get (D := D) (ci := 4) (v := .int (M.1 4 0)) (C := RX4) (T := TX4) (N := 8) hx hb hts hinX4 hown hK hP 0 rfl rfl 3 (by decide) q1 (fun _ h9 => h9) rfl dX4_undo_2 ?_
  refine lv_if_ne (tgt := 12) hx hb dX4_undo_5 (by decide) (fun c1 => ?_) (fun c1 => ?_)
  · rw [if_neg c1] at hR hF
    refine lv_iconst (v := 0) hx hb dX4_undo_12 (by decide) ?_
    refine kcI (ci := 4) (q0 := 0) (As := [.int 0]) (rest := []) E.1 (cx4_refused E am M 0) hX (cwV 1 hts gX4_undo_X4_refused rfl rfl rfl hdX4_refused ⟨Nat.le_of_ble_eq_true rfl, Nat.le_of_ble_eq_true rfl⟩) hKs hK hP hD hS hA _ _ (kw_self _) (kw_self _).symm rfl rfl rfl rfl hl.1 (Nat.le_of_ble_eq_true rfl) dX4_undo_13 ⟨Nat.zero_le _, Nat.zero_le _⟩ (fun H locs hP hD hS => ?_)
    have hP : va_P D vwCl (mdW cI am ((fx4_refused M 0).2)) H := hP
    have hD : va_D A (mdW cI am ((fx4_refused M 0).2)) := hD
    generalize eu8 : fx4_refused M 0 = u8 at hR hF hP hD ⊢
    replace hR := bnd_e hR
    replace hF := bnd_p hF
    refine lv_if_eq (tgt := 21) hx hb dX4_undo_16 (by decide) (fun c9 => ?_) (fun c9 => ?_)
    · rw [if_pos c9] at hR hF
      refine lv_aload_n hx hb dX4_undo_21 rfl (lv_at hl 0 rfl) ?_
      refine lv_dup hx hb dX4_undo_22 rfl ?_
      refine va_get (D := D) (ci := 4) (v := .int (u8.2.1 4 0)) (C := RX4) (T := TX4) (N := 8) hx hb hts hinX4 hown hK hP 0 rfl rfl 3 (by decide) q1 (fun _ h9 => h9) rfl dX4_undo_23 ?_
      refine lv_iconst (v := 1) hx hb dX4_undo_26 (by decide) ?_
      refine lv_isub hx hb dX4_undo_27 ?_
      refine va_put (D := D) (ci := 4) (v := .int ((u8.2.1 4 0) - 1)) (ty := .int) (C := RX4) (T := TX4) (N := 8) hx hb hts hinX4 tyX4 tyX4_ok nmX4 hown hK hP hD hS 0 rfl rfl 3 (by decide) q1 (fun _ h9 => h9) rfl (by decide +kernel) rfl rfl (Nat.le_of_ble_eq_true rfl) dX4_undo_28 (fun H locs hP hD hS => ?_)
      have hP : va_P D vwCl (mdW cI am (sset u8.2.1 4 0 ((u8.2.1 4 0) - 1), u8.2.2)) H := hP
      have hD : va_D A (mdW cI am (sset u8.2.1 4 0 ((u8.2.1 4 0) - 1), u8.2.2)) := hD
      refine lv_iconst (v := 0) hx hb dX4_undo_31 (by decide) ?_
      refine lv_istore_n (lv' := [(1, .int 0), (0, .ref (am 0))]) hx hb dX4_undo_32 rfl hl (by decide) rfl (fun ls hl => ?_)
      have loop33 : ∀ (n33 : Nat) (y1 : Int32) (M : Md) (H : Heap) (locs : List Loc) (ls : Array Slot), fx4_undo_L33 n33 y1 M = R → sx4_undo_L33 n33 y1 M → va_P D vwCl (mdW cI am M) H → va_D A (mdW cI am M) → va_S A s.heap H locs → lv_has ls 2 [(1, .int y1), (0, .ref (am 0))] → W p l e (kRm 1 21) s m ([.ref (am 0)] : List Value).toArray below meth c H locs 0 0 (kQI D below R.1 (mdW cI am R.2) A ([.ref (am 0)] : List Value).toArray s) (F0 m 33 ls []) := by
        intro n33
        induction n33 with
        | zero => intro y1 M H locs ls hR hF; exact hF.elim
        | succ n33 ih33 =>
          intro y1 M H locs ls hR hF hP hD hS hl
          rw [fx4_undo_L33] at hR
          rw [sx4_undo_L33] at hF
          refine lv_iload_n hx hb dX4_undo_33 rfl (lv_at hl 0 rfl) ?_
          refine lv_sipush (v := 1203) hx hb dX4_undo_34 (by decide) ?_
          refine lv_icmp_ge (tgt := 67) hx hb dX4_undo_37 (by decide) (fun c10 => ?_) (fun c10 => ?_)
          · rw [if_pos c10] at hR hF
            refine lv_aload_n hx hb dX4_undo_67 rfl (lv_at hl 1 rfl) ?_
            refine va_get (D := D) (ci := 4) (v := .int (M.1 4 0)) (C := RX4) (T := TX4) (N := 8) hx hb hts hinX4 hown hK hP 0 rfl rfl 3 (by decide) q1 (fun _ h9 => h9) rfl dX4_undo_68 ?_
            subst hR
            exact krI hx hb hr hlk hP hD hS dX4_undo_71 rfl rfl
          · rw [if_neg c10] at hR hF
            refine lv_aload_n hx hb dX4_undo_40 rfl (lv_at hl 1 rfl) ?_
            refine va_get (D := D) (ci := 4) (v := .ref (am 1)) (C := RX4) (T := TX4) (N := 8) hx hb hts hinX4 hown hK hP 0 rfl rfl 0 (by decide) q2 (fun _ h9 => h9) rfl dX4_undo_41 ?_
            refine lv_iload_n hx hb dX4_undo_44 rfl (lv_at hl 0 rfl) ?_
            refine lv_aload_n hx hb dX4_undo_45 rfl (lv_at hl 1 rfl) ?_
            refine va_get (D := D) (ci := 4) (v := .ref (am 2)) (C := RX4) (T := TX4) (N := 8) hx hb hts hinX4 hown hK hP 0 rfl rfl 1 (by decide) q3 (fun _ h9 => h9) rfl dX4_undo_46 ?_
            refine lv_sipush (v := 1203) hx hb dX4_undo_49 (by decide) ?_
            refine lv_aload_n hx hb dX4_undo_52 rfl (lv_at hl 1 rfl) ?_
            refine va_get (D := D) (ci := 4) (v := .int (M.1 4 0)) (C := RX4) (T := TX4) (N := 8) hx hb hts hinX4 hown hK hP 0 rfl rfl 3 (by decide) q1 (fun _ h9 => h9) rfl dX4_undo_53 ?_
            refine lv_imul hx hb dX4_undo_56 ?_
            refine lv_iload_n hx hb dX4_undo_57 rfl (lv_at hl 0 rfl) ?_
            refine lv_iadd hx hb dX4_undo_58 ?_
            obtain ⟨hi11, hF⟩ := hF
            refine va_iald hx hb hK hP 2 0 rfl rfl hi11 dX4_undo_59 ?_
            obtain ⟨hi12, hF⟩ := hF
            refine va_iast hx hb hK hP hD hS 1 0 rfl rfl hi12 dX4_undo_60 (fun H locs hP hD hS => ?_)
            have hP : va_P D vwCl (mdW cI am (va_up M.1 0 (upd (M.1 0) (y1).toNatClampNeg ((M.1 1) ((1203 * (M.1 4 0)) + y1).toNatClampNeg)), M.2)) H := hP
            have hD : va_D A (mdW cI am (va_up M.1 0 (upd (M.1 0) (y1).toNatClampNeg ((M.1 1) ((1203 * (M.1 4 0)) + y1).toNatClampNeg)), M.2)) := hD
            generalize eg13 : upd (M.1 0) (y1).toNatClampNeg ((M.1 1) ((1203 * (M.1 4 0)) + y1).toNatClampNeg) = g13 at hR hP hD hF
            replace hR := bnd_e hR
            replace hF := bnd_p hF
            refine lv_iinc (v := y1 + 1) (lv' := [(1, .int (y1 + 1)), (0, .ref (am 0))]) hx hb dX4_undo_61 hl (k := 0) rfl rfl (by decide) rfl (fun ls hl => ?_)
            refine lv_goto (tgt := 33) hx hb dX4_undo_64 (by decide) ?_
            exact ih33 (y1 + 1) (va_up M.1 0 g13, M.2) _ _ ls hR hF hP hD hS (lv_sub hl [0, 1] rfl)
      exact loop33 kfu 0 (sset u8.2.1 4 0 ((u8.2.1 4 0) - 1), u8.2.2) _ _ ls hR hF hP hD hS (lv_sub hl [0, 1] rfl)
    · rw [if_neg c9] at hR hF
      refine lv_iconst (v := 0) hx hb dX4_undo_19 (by decide) ?_
      subst hR
      exact krI hx hb hr hlk hP hD hS dX4_undo_20 rfl rfl
  · rw [if_pos c1] at hR hF
    refine lv_iconst (v := 1) hx hb dX4_undo_8 (by decide) ?_
    refine lv_goto (tgt := 13) hx hb dX4_undo_9 (by decide) ?_
    refine kcI (ci := 4) (q0 := 0) (As := [.int 1]) (rest := []) E.1 (cx4_refused E am M 1) hX (cwV 1 hts gX4_undo_X4_refused rfl rfl rfl hdX4_refused ⟨Nat.le_of_ble_eq_true rfl, Nat.le_of_ble_eq_true rfl⟩) hKs hK hP hD hS hA _ _ (kw_self _) (kw_self _).symm rfl rfl rfl rfl hl.1 (Nat.le_of_ble_eq_true rfl) dX4_undo_13 ⟨Nat.zero_le _, Nat.zero_le _⟩ (fun H locs hP hD hS => ?_)
    have hP : va_P D vwCl (mdW cI am ((fx4_refused M 1).2)) H := hP
    have hD : va_D A (mdW cI am ((fx4_refused M 1).2)) := hD
    generalize eu2 : fx4_refused M 1 = u2 at hR hF hP hD ⊢
    replace hR := bnd_e hR
    replace hF := bnd_p hF
    refine lv_if_eq (tgt := 21) hx hb dX4_undo_16 (by decide) (fun c3 => ?_) (fun c3 => ?_)
    · rw [if_pos c3] at hR hF
      refine lv_aload_n hx hb dX4_undo_21 rfl (lv_at hl 0 rfl) ?_
      refine lv_dup hx hb dX4_undo_22 rfl ?_
      refine va_get (D := D) (ci := 4) (v := .int (u2.2.1 4 0)) (C := RX4) (T := TX4) (N := 8) hx hb hts hinX4 hown hK hP 0 rfl rfl 3 (by decide) q1 (fun _ h9 => h9) rfl dX4_undo_23 ?_
      refine lv_iconst (v := 1) hx hb dX4_undo_26 (by decide) ?_
      refine lv_isub hx hb dX4_undo_27 ?_
      refine va_put (D := D) (ci := 4) (v := .int ((u2.2.1 4 0) - 1)) (ty := .int) (C := RX4) (T := TX4) (N := 8) hx hb hts hinX4 tyX4 tyX4_ok nmX4 hown hK hP hD hS 0 rfl rfl 3 (by decide) q1 (fun _ h9 => h9) rfl (by decide +kernel) rfl rfl (Nat.le_of_ble_eq_true rfl) dX4_undo_28 (fun H locs hP hD hS => ?_)
      have hP : va_P D vwCl (mdW cI am (sset u2.2.1 4 0 ((u2.2.1 4 0) - 1), u2.2.2)) H := hP
      have hD : va_D A (mdW cI am (sset u2.2.1 4 0 ((u2.2.1 4 0) - 1), u2.2.2)) := hD
      refine lv_iconst (v := 0) hx hb dX4_undo_31 (by decide) ?_
      refine lv_istore_n (lv' := [(1, .int 0), (0, .ref (am 0))]) hx hb dX4_undo_32 rfl hl (by decide) rfl (fun ls hl => ?_)
      have loop33 : ∀ (n33 : Nat) (y1 : Int32) (M : Md) (H : Heap) (locs : List Loc) (ls : Array Slot), fx4_undo_L33 n33 y1 M = R → sx4_undo_L33 n33 y1 M → va_P D vwCl (mdW cI am M) H → va_D A (mdW cI am M) → va_S A s.heap H locs → lv_has ls 2 [(1, .int y1), (0, .ref (am 0))] → W p l e (kRm 1 21) s m ([.ref (am 0)] : List Value).toArray below meth c H locs 0 0 (kQI D below R.1 (mdW cI am R.2) A ([.ref (am 0)] : List Value).toArray s) (F0 m 33 ls []) := by
        intro n33
        induction n33 with
        | zero => intro y1 M H locs ls hR hF; exact hF.elim
        | succ n33 ih33 =>
          intro y1 M H locs ls hR hF hP hD hS hl
          rw [fx4_undo_L33] at hR
          rw [sx4_undo_L33] at hF
          refine lv_iload_n hx hb dX4_undo_33 rfl (lv_at hl 0 rfl) ?_
          refine lv_sipush (v := 1203) hx hb dX4_undo_34 (by decide) ?_
          refine lv_icmp_ge (tgt := 67) hx hb dX4_undo_37 (by decide) (fun c4 => ?_) (fun c4 => ?_)
          · rw [if_pos c4] at hR hF
            refine lv_aload_n hx hb dX4_undo_67 rfl (lv_at hl 1 rfl) ?_
            refine va_get (D := D) (ci := 4) (v := .int (M.1 4 0)) (C := RX4) (T := TX4) (N := 8) hx hb hts hinX4 hown hK hP 0 rfl rfl 3 (by decide) q1 (fun _ h9 => h9) rfl dX4_undo_68 ?_
            subst hR
            exact krI hx hb hr hlk hP hD hS dX4_undo_71 rfl rfl
          · rw [if_neg c4] at hR hF
            refine lv_aload_n hx hb dX4_undo_40 rfl (lv_at hl 1 rfl) ?_
            refine va_get (D := D) (ci := 4) (v := .ref (am 1)) (C := RX4) (T := TX4) (N := 8) hx hb hts hinX4 hown hK hP 0 rfl rfl 0 (by decide) q2 (fun _ h9 => h9) rfl dX4_undo_41 ?_
            refine lv_iload_n hx hb dX4_undo_44 rfl (lv_at hl 0 rfl) ?_
            refine lv_aload_n hx hb dX4_undo_45 rfl (lv_at hl 1 rfl) ?_
            refine va_get (D := D) (ci := 4) (v := .ref (am 2)) (C := RX4) (T := TX4) (N := 8) hx hb hts hinX4 hown hK hP 0 rfl rfl 1 (by decide) q3 (fun _ h9 => h9) rfl dX4_undo_46 ?_
            refine lv_sipush (v := 1203) hx hb dX4_undo_49 (by decide) ?_
            refine lv_aload_n hx hb dX4_undo_52 rfl (lv_at hl 1 rfl) ?_
            refine va_get (D := D) (ci := 4) (v := .int (M.1 4 0)) (C := RX4) (T := TX4) (N := 8) hx hb hts hinX4 hown hK hP 0 rfl rfl 3 (by decide) q1 (fun _ h9 => h9) rfl dX4_undo_53 ?_
            refine lv_imul hx hb dX4_undo_56 ?_
            refine lv_iload_n hx hb dX4_undo_57 rfl (lv_at hl 0 rfl) ?_
            refine lv_iadd hx hb dX4_undo_58 ?_
            obtain ⟨hi5, hF⟩ := hF
            refine va_iald hx hb hK hP 2 0 rfl rfl hi5 dX4_undo_59 ?_
            obtain ⟨hi6, hF⟩ := hF
            refine va_iast hx hb hK hP hD hS 1 0 rfl rfl hi6 dX4_undo_60 (fun H locs hP hD hS => ?_)
            have hP : va_P D vwCl (mdW cI am (va_up M.1 0 (upd (M.1 0) (y1).toNatClampNeg ((M.1 1) ((1203 * (M.1 4 0)) + y1).toNatClampNeg)), M.2)) H := hP
            have hD : va_D A (mdW cI am (va_up M.1 0 (upd (M.1 0) (y1).toNatClampNeg ((M.1 1) ((1203 * (M.1 4 0)) + y1).toNatClampNeg)), M.2)) := hD
            generalize eg7 : upd (M.1 0) (y1).toNatClampNeg ((M.1 1) ((1203 * (M.1 4 0)) + y1).toNatClampNeg) = g7 at hR hP hD hF
            replace hR := bnd_e hR
            replace hF := bnd_p hF
            refine lv_iinc (v := y1 + 1) (lv' := [(1, .int (y1 + 1)), (0, .ref (am 0))]) hx hb dX4_undo_61 hl (k := 0) rfl rfl (by decide) rfl (fun ls hl => ?_)
            refine lv_goto (tgt := 33) hx hb dX4_undo_64 (by decide) ?_
            exact ih33 (y1 + 1) (va_up M.1 0 g7, M.2) _ _ ls hR hF hP hD hS (lv_sub hl [0, 1] rfl)
      exact loop33 kfu 0 (sset u2.2.1 4 0 ((u2.2.1 4 0) - 1), u2.2.2) _ _ ls hR hF hP hD hS (lv_sub hl [0, 1] rfl)
    · rw [if_neg c3] at hR hF
      refine lv_iconst (v := 0) hx hb dX4_undo_19 (by decide) ?_
      subst hR
      exact krI hx hb hr hlk hP hD hS dX4_undo_20 rfl rfl

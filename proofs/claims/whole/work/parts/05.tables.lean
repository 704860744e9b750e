/-! the tables: printed by my own program (gen.py) out of the listing -/
theorem hdX2_count : yX2_count.cls = RX2 ∧ yX2_count.cls ≠ "java/lang/invoke/MethodHandle" ∧ yX2_count.cls ≠ "java/lang/invoke/VarHandle" ∧ (parseMethodDescriptor yX2_count.desc).map (fun d => d.parameters.length) = some 0 := by decide +kernel
def fx2_count (w rm : Int32) (n : Nat) (T : Tb) : Int32 := T.1
set_option maxHeartbeats 4000000 in
set_option maxRecDepth 100000 in
theorem cx2_count {l : Launch} {D : va_G} {cI cB cS cJ : ClassId} {K : State → Prop} (E : kE D cI cB cS cJ K) (q qc : Nat) (w rm : Int32) (n : Nat) (hn : n < 2147483648) (T : Tb) : kI l D K yX2_count wsX2_count 0 0 [.ref q] (tbW cI q qc w rm n T) (fx2_count w rm n T) (tbW cI q qc w rm n T) := by
  refine kI_of (own := RX2) (cc := cX2_count) (maxL := 1) (tys := kty cI cB cS cJ) (fun U h => (E.2 U h).1) (by decide) rfl rfl (Nat.le_of_ble_eq_true rfl) ?_
  intro p e s m below meth c A ls hx hb hr hml hts hown hlk hKs hK hP hD hA hS hl
  have hl : lv_has ls 1 [(0, .ref q)] := hl
  have hX : CallFix p m c cX2_count 1 s _ wsX2_count RX2 := ⟨hx, hb, hml, hown, hts⟩
  have hinX2 : ∀ w ∈ wsX20, w ∈ wsX2_count := fun w h => List.mem_cons_of_mem _ (List.mem_append_right _ h)
  have q1 := hts (.fieldLink RX2 9 "LabelStation$Table" "rows" "I") (List.mem_of_getElem? (i := 1) rfl)
  generalize hR : fx2_count w rm n T = R
  rw [fx2_count] at hR
  refine lv_aload_n hx hb dX2_count_0 rfl (lv_at hl 0 rfl) ?_
  refine va_get (D := D) (ci := 2) (v := .int T.1) (C := RX2) (T := TX2) (N := 4) hx hb hts hinX2 hown hK hP 0 rfl rfl 3 (by decide) q1 (fun _ h9 => h9) rfl dX2_count_1 ?_
  subst hR
  exact krI hx hb hr hlk hP hD hS dX2_count_4 rfl rfl

theorem hdX2_get : yX2_get.cls = RX2 ∧ yX2_get.cls ≠ "java/lang/invoke/MethodHandle" ∧ yX2_get.cls ≠ "java/lang/invoke/VarHandle" ∧ (parseMethodDescriptor yX2_get.desc).map (fun d => d.parameters.length) = some 2 := by decide +kernel
def fx2_get (w rm : Int32) (n : Nat) (T : Tb) (x1 : Int32) (x2 : Int32) : Int32 := (if ((x1 * w) + x2) < 0 then 0 else (if (nI n) ≤ ((x1 * w) + x2) then 0 else T.2 ((x1 * w) + x2).toNatClampNeg))
set_option maxHeartbeats 4000000 in
set_option maxRecDepth 100000 in
theorem cx2_get {l : Launch} {D : va_G} {cI cB cS cJ : ClassId} {K : State → Prop} (E : kE D cI cB cS cJ K) (q qc : Nat) (w rm : Int32) (n : Nat) (hn : n < 2147483648) (T : Tb) (x1 : Int32) (x2 : Int32) : kI l D K yX2_get wsX2_get 0 0 [.ref q, .int x1, .int x2] (tbW cI q qc w rm n T) (fx2_get w rm n T x1 x2) (tbW cI q qc w rm n T) := by
  refine kI_of (own := RX2) (cc := cX2_get) (maxL := 4) (tys := kty cI cB cS cJ) (fun U h => (E.2 U h).1) (by decide) rfl rfl (Nat.le_of_ble_eq_true rfl) ?_
  intro p e s m below meth c A ls hx hb hr hml hts hown hlk hKs hK hP hD hA hS hl
  have hl : lv_has ls 4 [(0, .ref q), (1, .int x1), (2, .int x2)] := hl
  have hX : CallFix p m c cX2_get 4 s _ wsX2_get RX2 := ⟨hx, hb, hml, hown, hts⟩
  have hinX2 : ∀ w ∈ wsX20, w ∈ wsX2_get := fun w h => List.mem_cons_of_mem _ (List.mem_append_right _ h)
  have q1 := hts (.fieldLink RX2 21 "LabelStation$Table" "width" "I") (List.mem_of_getElem? (i := 1) rfl)
  have q2 := hts (.fieldLink RX2 27 "LabelStation$Table" "cells" "[I") (List.mem_of_getElem? (i := 2) rfl)
  generalize hR : fx2_get w rm n T x1 x2 = R
  rw [fx2_get] at hR
  refine lv_iload_n hx hb dX2_get_0 rfl (lv_at hl 1 rfl) ?_
  refine lv_aload_n hx hb dX2_get_1 rfl (lv_at hl 0 rfl) ?_
  refine va_get (D := D) (ci := 2) (v := .int w) (C := RX2) (T := TX2) (N := 4) hx hb hts hinX2 hown hK hP 0 rfl rfl 0 (by decide) q1 (fun _ h9 => h9) rfl dX2_get_2 ?_
  refine lv_imul hx hb dX2_get_5 ?_
  refine lv_iload_n hx hb dX2_get_6 rfl (lv_at hl 2 rfl) ?_
  refine lv_iadd hx hb dX2_get_7 ?_
  refine lv_istore_n (lv' := [(3, .int ((x1 * w) + x2)), (0, .ref q), (1, .int x1), (2, .int x2)]) hx hb dX2_get_8 rfl hl (by decide) rfl (fun ls hl => ?_)
  refine lv_iload_n hx hb dX2_get_9 rfl (lv_at hl 0 rfl) ?_
  refine lv_if_lt (tgt := 31) hx hb dX2_get_10 (by decide) (fun c1 => ?_) (fun c1 => ?_)
  · rw [if_pos c1] at hR
    refine lv_iconst (v := 0) hx hb dX2_get_31 (by decide) ?_
    subst hR
    exact krI hx hb hr hlk hP hD hS dX2_get_32 rfl rfl
  · rw [if_neg c1] at hR
    refine lv_iload_n hx hb dX2_get_13 rfl (lv_at hl 0 rfl) ?_
    refine lv_aload_n hx hb dX2_get_14 rfl (lv_at hl 1 rfl) ?_
    refine va_get (D := D) (ci := 2) (v := .ref qc) (C := RX2) (T := TX2) (N := 4) hx hb hts hinX2 hown hK hP 0 rfl rfl 2 (by decide) q2 (fun _ h9 => h9) rfl dX2_get_15 ?_
    refine va_alen (v := nI n) hx hb hK hP 1 0 rfl rfl rfl dX2_get_18 ?_
    refine lv_icmp_ge (tgt := 31) hx hb dX2_get_19 (by decide) (fun c2 => ?_) (fun c2 => ?_)
    · rw [if_pos c2] at hR
      refine lv_iconst (v := 0) hx hb dX2_get_31 (by decide) ?_
      subst hR
      exact krI hx hb hr hlk hP hD hS dX2_get_32 rfl rfl
    · rw [if_neg c2] at hR
      refine lv_aload_n hx hb dX2_get_22 rfl (lv_at hl 1 rfl) ?_
      refine va_get (D := D) (ci := 2) (v := .ref qc) (C := RX2) (T := TX2) (N := 4) hx hb hts hinX2 hown hK hP 0 rfl rfl 2 (by decide) q2 (fun _ h9 => h9) rfl dX2_get_23 ?_
      refine lv_iload_n hx hb dX2_get_26 rfl (lv_at hl 0 rfl) ?_
      refine va_iald hx hb hK hP 1 0 rfl rfl (kin_of c1 c2 hn) dX2_get_27 ?_
      refine lv_goto (tgt := 32) hx hb dX2_get_28 (by decide) ?_
      subst hR
      exact krI hx hb hr hlk hP hD hS dX2_get_32 rfl rfl

theorem hdX2_put : yX2_put.cls = RX2 ∧ yX2_put.cls ≠ "java/lang/invoke/MethodHandle" ∧ yX2_put.cls ≠ "java/lang/invoke/VarHandle" ∧ (parseMethodDescriptor yX2_put.desc).map (fun d => d.parameters.length) = some 3 := by decide +kernel
def fx2_put (w rm : Int32) (n : Nat) (T : Tb) (x1 : Int32) (x2 : Int32) (x3 : Int32) : Tb := (if ((x1 * w) + x2) < 0 then T else (if (nI n) ≤ ((x1 * w) + x2) then T else (T.1, upd T.2 ((x1 * w) + x2).toNatClampNeg x3)))
set_option maxHeartbeats 4000000 in
set_option maxRecDepth 100000 in
theorem cx2_put {l : Launch} {D : va_G} {cI cB cS cJ : ClassId} {K : State → Prop} (E : kE D cI cB cS cJ K) (q qc : Nat) (w rm : Int32) (n : Nat) (hn : n < 2147483648) (T : Tb) (x1 : Int32) (x2 : Int32) (x3 : Int32) : kV l D K yX2_put wsX2_put 0 0 [.ref q, .int x1, .int x2, .int x3] (tbW cI q qc w rm n T)  (tbW cI q qc w rm n (fx2_put w rm n T x1 x2 x3)) := by
  refine kV_of (own := RX2) (cc := cX2_put) (maxL := 5) (tys := kty cI cB cS cJ) (fun U h => (E.2 U h).1) (by decide) rfl rfl (Nat.le_of_ble_eq_true rfl) ?_
  intro p e s m below meth c A ls hx hb hr hml hts hown hlk hKs hK hP hD hA hS hl
  have hl : lv_has ls 5 [(0, .ref q), (1, .int x1), (2, .int x2), (3, .int x3)] := hl
  have hX : CallFix p m c cX2_put 5 s _ wsX2_put RX2 := ⟨hx, hb, hml, hown, hts⟩
  have hinX2 : ∀ w ∈ wsX20, w ∈ wsX2_put := fun w h => List.mem_cons_of_mem _ (List.mem_append_right _ h)
  have q1 := hts (.fieldLink RX2 21 "LabelStation$Table" "width" "I") (List.mem_of_getElem? (i := 1) rfl)
  have q2 := hts (.fieldLink RX2 27 "LabelStation$Table" "cells" "[I") (List.mem_of_getElem? (i := 2) rfl)
  generalize hR : fx2_put w rm n T x1 x2 x3 = R
  rw [fx2_put] at hR
  refine lv_iload_n hx hb dX2_put_0 rfl (lv_at hl 1 rfl) ?_
  refine lv_aload_n hx hb dX2_put_1 rfl (lv_at hl 0 rfl) ?_
  refine va_get (D := D) (ci := 2) (v := .int w) (C := RX2) (T := TX2) (N := 4) hx hb hts hinX2 hown hK hP 0 rfl rfl 0 (by decide) q1 (fun _ h9 => h9) rfl dX2_put_2 ?_
  refine lv_imul hx hb dX2_put_5 ?_
  refine lv_iload_n hx hb dX2_put_6 rfl (lv_at hl 2 rfl) ?_
  refine lv_iadd hx hb dX2_put_7 ?_
  refine lv_istore (lv' := [(4, .int ((x1 * w) + x2)), (0, .ref q), (1, .int x1), (2, .int x2), (3, .int x3)]) hx hb dX2_put_8 hl (by decide) rfl (fun ls hl => ?_)
  refine lv_iload hx hb dX2_put_10 (lv_at hl 0 rfl) ?_
  refine lv_if_lt (tgt := 33) hx hb dX2_put_12 (by decide) (fun c1 => ?_) (fun c1 => ?_)
  · rw [if_pos c1] at hR
    subst hR
    exact krV hx hb hr hlk hP hD hS dX2_put_33 rfl
  · rw [if_neg c1] at hR
    refine lv_iload hx hb dX2_put_15 (lv_at hl 0 rfl) ?_
    refine lv_aload_n hx hb dX2_put_17 rfl (lv_at hl 1 rfl) ?_
    refine va_get (D := D) (ci := 2) (v := .ref qc) (C := RX2) (T := TX2) (N := 4) hx hb hts hinX2 hown hK hP 0 rfl rfl 2 (by decide) q2 (fun _ h9 => h9) rfl dX2_put_18 ?_
    refine va_alen (v := nI n) hx hb hK hP 1 0 rfl rfl rfl dX2_put_21 ?_
    refine lv_icmp_ge (tgt := 33) hx hb dX2_put_22 (by decide) (fun c2 => ?_) (fun c2 => ?_)
    · rw [if_pos c2] at hR
      subst hR
      exact krV hx hb hr hlk hP hD hS dX2_put_33 rfl
    · rw [if_neg c2] at hR
      refine lv_aload_n hx hb dX2_put_25 rfl (lv_at hl 1 rfl) ?_
      refine va_get (D := D) (ci := 2) (v := .ref qc) (C := RX2) (T := TX2) (N := 4) hx hb hts hinX2 hown hK hP 0 rfl rfl 2 (by decide) q2 (fun _ h9 => h9) rfl dX2_put_26 ?_
      refine lv_iload hx hb dX2_put_29 (lv_at hl 0 rfl) ?_
      refine lv_iload_n hx hb dX2_put_31 rfl (lv_at hl 4 rfl) ?_
      refine va_iast hx hb hK hP hD hS 1 0 rfl rfl (kin_of c1 c2 hn) dX2_put_32 (fun H locs hP hD hS => ?_)
      have hP : va_P D vwCl (tbW cI q qc w rm n (T.1, upd T.2 ((x1 * w) + x2).toNatClampNeg x3)) H := hP
      have hD : va_D A (tbW cI q qc w rm n (T.1, upd T.2 ((x1 * w) + x2).toNatClampNeg x3)) := hD
      subst hR
      exact krV hx hb hr hlk hP hD hS dX2_put_33 rfl

theorem hdX2_find : yX2_find.cls = RX2 ∧ yX2_find.cls ≠ "java/lang/invoke/MethodHandle" ∧ yX2_find.cls ≠ "java/lang/invoke/VarHandle" ∧ (parseMethodDescriptor yX2_find.desc).map (fun d => d.parameters.length) = some 1 := by decide +kernel
def fx2_find_L2 (w rm : Int32) (n : Nat) (T : Tb) : Nat → Int32 → Int32 → Int32
  | 0, _, _ => 0
  | n2 + 1, y1, y2 => (if T.1 ≤ y2 then (-1) else (if (fx2_get w rm n T y2 0) = y1 then y2 else fx2_find_L2 w rm n T n2 y1 (y2 + 1)))
def sx2_find_L2 (w rm : Int32) (n : Nat) (T : Tb) : Nat → Int32 → Int32 → Prop
  | 0, _, _ => False
  | n2 + 1, y1, y2 => (if T.1 ≤ y2 then True else (if (fx2_get w rm n T y2 0) = y1 then True else sx2_find_L2 w rm n T n2 y1 (y2 + 1)))
def fx2_find (w rm : Int32) (n : Nat) (T : Tb) (x1 : Int32) : Int32 := fx2_find_L2 w rm n T kfu x1 0
def sx2_find (w rm : Int32) (n : Nat) (T : Tb) (x1 : Int32) : Prop := sx2_find_L2 w rm n T kfu x1 0
set_option maxHeartbeats 4000000 in
set_option maxRecDepth 100000 in
theorem cx2_find {l : Launch} {D : va_G} {cI cB cS cJ : ClassId} {K : State → Prop} (E : kE D cI cB cS cJ K) (q qc : Nat) (w rm : Int32) (n : Nat) (hn : n < 2147483648) (T : Tb) (x1 : Int32) (hF : sx2_find w rm n T x1) : kI l D K yX2_find wsX2_find 1 23 [.ref q, .int x1] (tbW cI q qc w rm n T) (fx2_find w rm n T x1) (tbW cI q qc w rm n T) := by
  refine kI_of (own := RX2) (cc := cX2_find) (maxL := 3) (tys := kty cI cB cS cJ) (fun U h => (E.2 U h).1) (by decide) rfl rfl (Nat.le_of_ble_eq_true rfl) ?_
  intro p e s m below meth c A ls hx hb hr hml hts hown hlk hKs hK hP hD hA hS hl
  have hl : lv_has ls 3 [(0, .ref q), (1, .int x1)] := hl
  have hX : CallFix p m c cX2_find 3 s _ wsX2_find RX2 := ⟨hx, hb, hml, hown, hts⟩
  have hinX2 : ∀ w ∈ wsX20, w ∈ wsX2_find := fun w h => List.mem_cons_of_mem _ (List.mem_append_right _ h)
  have q1 := hts (.fieldLink RX2 9 "LabelStation$Table" "rows" "I") (List.mem_of_getElem? (i := 1) rfl)
  generalize hR : fx2_find w rm n T x1 = R
  rw [fx2_find] at hR
  rw [sx2_find] at hF
  refine lv_iconst (v := 0) hx hb dX2_find_0 (by decide) ?_
  refine lv_istore_n (lv' := [(2, .int 0), (0, .ref q), (1, .int x1)]) hx hb dX2_find_1 rfl hl (by decide) rfl (fun ls hl => ?_)
  have loop2 : ∀ (n2 : Nat) (y1 : Int32) (y2 : Int32) (H : Heap) (locs : List Loc) (ls : Array Slot), fx2_find_L2 w rm n T n2 y1 y2 = R → sx2_find_L2 w rm n T n2 y1 y2 → va_P D vwCl (tbW cI q qc w rm n T) H → va_D A (tbW cI q qc w rm n T) → va_S A s.heap H locs → lv_has ls 3 [(1, .int y1), (2, .int y2), (0, .ref q)] → W p l e (kRm 1 23) s m ([.ref q, .int x1] : List Value).toArray below meth c H locs 0 0 (kQI D below R (tbW cI q qc w rm n T) A ([.ref q, .int x1] : List Value).toArray s) (F0 m 2 ls []) := by
    intro n2
    induction n2 with
    | zero => intro y1 y2 H locs ls hR hF; exact hF.elim
    | succ n2 ih2 =>
      intro y1 y2 H locs ls hR hF hP hD hS hl
      rw [fx2_find_L2] at hR
      rw [sx2_find_L2] at hF
      refine lv_iload_n hx hb dX2_find_2 rfl (lv_at hl 1 rfl) ?_
      refine lv_aload_n hx hb dX2_find_3 rfl (lv_at hl 2 rfl) ?_
      refine va_get (D := D) (ci := 2) (v := .int T.1) (C := RX2) (T := TX2) (N := 4) hx hb hts hinX2 hown hK hP 0 rfl rfl 3 (by decide) q1 (fun _ h9 => h9) rfl dX2_find_4 ?_
      refine lv_icmp_ge (tgt := 28) hx hb dX2_find_7 (by decide) (fun c1 => ?_) (fun c1 => ?_)
      · rw [if_pos c1] at hR hF
        refine lv_iconst (v := (-1)) hx hb dX2_find_28 (by decide) ?_
        subst hR
        exact krI hx hb hr hlk hP hD hS dX2_find_29 rfl rfl
      · rw [if_neg c1] at hR hF
        refine lv_aload_n hx hb dX2_find_10 rfl (lv_at hl 2 rfl) ?_
        refine lv_iload_n hx hb dX2_find_11 rfl (lv_at hl 1 rfl) ?_
        refine lv_iconst (v := 0) hx hb dX2_find_12 (by decide) ?_
        refine kcI (ci := 2) (q0 := 0) (As := [.int y2, .int 0]) (rest := []) E.1 (cx2_get E q qc w rm n hn T y2 0) hX (cwV 2 hts gX2_find_X2_get rfl rfl rfl hdX2_get ⟨Nat.le_of_ble_eq_true rfl, Nat.le_of_ble_eq_true rfl⟩) hKs hK hP hD hS hA _ _ (kw_self _) (kw_self _).symm rfl rfl rfl rfl hl.1 (Nat.le_of_ble_eq_true rfl) dX2_find_13 ⟨Nat.zero_le _, Nat.zero_le _⟩ (fun H locs hP hD hS => ?_)
        refine lv_iload_n hx hb dX2_find_16 rfl (lv_at hl 0 rfl) ?_
        refine lv_icmp_ne (tgt := 22) hx hb dX2_find_17 (by decide) (fun c2 => ?_) (fun c2 => ?_)
        · rw [if_neg c2] at hR hF
          refine lv_iinc (v := y2 + 1) (lv' := [(2, .int (y2 + 1)), (1, .int y1), (0, .ref q)]) hx hb dX2_find_22 hl (k := 1) rfl rfl (by decide) rfl (fun ls hl => ?_)
          refine lv_goto (tgt := 2) hx hb dX2_find_25 (by decide) ?_
          exact ih2 y1 (y2 + 1) _ _ ls hR hF hP hD hS (lv_sub hl [1, 0, 2] rfl)
        · rw [if_pos c2] at hR hF
          refine lv_iload_n hx hb dX2_find_20 rfl (lv_at hl 1 rfl) ?_
          subst hR
          exact krI hx hb hr hlk hP hD hS dX2_find_21 rfl rfl
  exact loop2 kfu x1 0 _ _ ls hR hF hP hD hS (lv_sub hl [2, 0, 1] rfl)

theorem hdX2_hasBelow : yX2_hasBelow.cls = RX2 ∧ yX2_hasBelow.cls ≠ "java/lang/invoke/MethodHandle" ∧ yX2_hasBelow.cls ≠ "java/lang/invoke/VarHandle" ∧ (parseMethodDescriptor yX2_hasBelow.desc).map (fun d => d.parameters.length) = some 2 := by decide +kernel
def fx2_hasBelow_L2 (w rm : Int32) (n : Nat) (T : Tb) : Nat → Int32 → Int32 → Int32 → Int32
  | 0, _, _, _ => 0
  | n2 + 1, y1, y2, y3 => (if T.1 ≤ y3 then 0 else (if y2 ≤ (fx2_get w rm n T y3 y1) then fx2_hasBelow_L2 w rm n T n2 y1 y2 (y3 + 1) else 1))
def sx2_hasBelow_L2 (w rm : Int32) (n : Nat) (T : Tb) : Nat → Int32 → Int32 → Int32 → Prop
  | 0, _, _, _ => False
  | n2 + 1, y1, y2, y3 => (if T.1 ≤ y3 then True else (if y2 ≤ (fx2_get w rm n T y3 y1) then sx2_hasBelow_L2 w rm n T n2 y1 y2 (y3 + 1) else True))
def fx2_hasBelow (w rm : Int32) (n : Nat) (T : Tb) (x1 : Int32) (x2 : Int32) : Int32 := fx2_hasBelow_L2 w rm n T kfu x1 x2 0
def sx2_hasBelow (w rm : Int32) (n : Nat) (T : Tb) (x1 : Int32) (x2 : Int32) : Prop := sx2_hasBelow_L2 w rm n T kfu x1 x2 0
set_option maxHeartbeats 4000000 in
set_option maxRecDepth 100000 in
theorem cx2_hasBelow {l : Launch} {D : va_G} {cI cB cS cJ : ClassId} {K : State → Prop} (E : kE D cI cB cS cJ K) (q qc : Nat) (w rm : Int32) (n : Nat) (hn : n < 2147483648) (T : Tb) (x1 : Int32) (x2 : Int32) (hF : sx2_hasBelow w rm n T x1 x2) : kI l D K yX2_hasBelow wsX2_hasBelow 1 23 [.ref q, .int x1, .int x2] (tbW cI q qc w rm n T) (fx2_hasBelow w rm n T x1 x2) (tbW cI q qc w rm n T) := by
  refine kI_of (own := RX2) (cc := cX2_hasBelow) (maxL := 4) (tys := kty cI cB cS cJ) (fun U h => (E.2 U h).1) (by decide) rfl rfl (Nat.le_of_ble_eq_true rfl) ?_
  intro p e s m below meth c A ls hx hb hr hml hts hown hlk hKs hK hP hD hA hS hl
  have hl : lv_has ls 4 [(0, .ref q), (1, .int x1), (2, .int x2)] := hl
  have hX : CallFix p m c cX2_hasBelow 4 s _ wsX2_hasBelow RX2 := ⟨hx, hb, hml, hown, hts⟩
  have hinX2 : ∀ w ∈ wsX20, w ∈ wsX2_hasBelow := fun w h => List.mem_cons_of_mem _ (List.mem_append_right _ h)
  have q1 := hts (.fieldLink RX2 9 "LabelStation$Table" "rows" "I") (List.mem_of_getElem? (i := 1) rfl)
  generalize hR : fx2_hasBelow w rm n T x1 x2 = R
  rw [fx2_hasBelow] at hR
  rw [sx2_hasBelow] at hF
  refine lv_iconst (v := 0) hx hb dX2_hasBelow_0 (by decide) ?_
  refine lv_istore_n (lv' := [(3, .int 0), (0, .ref q), (1, .int x1), (2, .int x2)]) hx hb dX2_hasBelow_1 rfl hl (by decide) rfl (fun ls hl => ?_)
  have loop2 : ∀ (n2 : Nat) (y1 : Int32) (y2 : Int32) (y3 : Int32) (H : Heap) (locs : List Loc) (ls : Array Slot), fx2_hasBelow_L2 w rm n T n2 y1 y2 y3 = R → sx2_hasBelow_L2 w rm n T n2 y1 y2 y3 → va_P D vwCl (tbW cI q qc w rm n T) H → va_D A (tbW cI q qc w rm n T) → va_S A s.heap H locs → lv_has ls 4 [(1, .int y1), (2, .int y2), (3, .int y3), (0, .ref q)] → W p l e (kRm 1 23) s m ([.ref q, .int x1, .int x2] : List Value).toArray below meth c H locs 0 0 (kQI D below R (tbW cI q qc w rm n T) A ([.ref q, .int x1, .int x2] : List Value).toArray s) (F0 m 2 ls []) := by
    intro n2
    induction n2 with
    | zero => intro y1 y2 y3 H locs ls hR hF; exact hF.elim
    | succ n2 ih2 =>
      intro y1 y2 y3 H locs ls hR hF hP hD hS hl
      rw [fx2_hasBelow_L2] at hR
      rw [sx2_hasBelow_L2] at hF
      refine lv_iload_n hx hb dX2_hasBelow_2 rfl (lv_at hl 2 rfl) ?_
      refine lv_aload_n hx hb dX2_hasBelow_3 rfl (lv_at hl 3 rfl) ?_
      refine va_get (D := D) (ci := 2) (v := .int T.1) (C := RX2) (T := TX2) (N := 4) hx hb hts hinX2 hown hK hP 0 rfl rfl 3 (by decide) q1 (fun _ h9 => h9) rfl dX2_hasBelow_4 ?_
      refine lv_icmp_ge (tgt := 28) hx hb dX2_hasBelow_7 (by decide) (fun c1 => ?_) (fun c1 => ?_)
      · rw [if_pos c1] at hR hF
        refine lv_iconst (v := 0) hx hb dX2_hasBelow_28 (by decide) ?_
        subst hR
        exact krZ hx hb hr hlk hP hD hS dX2_hasBelow_29 (by decide) rfl rfl
      · rw [if_neg c1] at hR hF
        refine lv_aload_n hx hb dX2_hasBelow_10 rfl (lv_at hl 3 rfl) ?_
        refine lv_iload_n hx hb dX2_hasBelow_11 rfl (lv_at hl 2 rfl) ?_
        refine lv_iload_n hx hb dX2_hasBelow_12 rfl (lv_at hl 0 rfl) ?_
        refine kcI (ci := 2) (q0 := 0) (As := [.int y3, .int y1]) (rest := []) E.1 (cx2_get E q qc w rm n hn T y3 y1) hX (cwV 2 hts gX2_hasBelow_X2_get rfl rfl rfl hdX2_get ⟨Nat.le_of_ble_eq_true rfl, Nat.le_of_ble_eq_true rfl⟩) hKs hK hP hD hS hA _ _ (kw_self _) (kw_self _).symm rfl rfl rfl rfl hl.1 (Nat.le_of_ble_eq_true rfl) dX2_hasBelow_13 ⟨Nat.zero_le _, Nat.zero_le _⟩ (fun H locs hP hD hS => ?_)
        refine lv_iload_n hx hb dX2_hasBelow_16 rfl (lv_at hl 1 rfl) ?_
        refine lv_icmp_ge (tgt := 22) hx hb dX2_hasBelow_17 (by decide) (fun c2 => ?_) (fun c2 => ?_)
        · rw [if_pos c2] at hR hF
          refine lv_iinc (v := y3 + 1) (lv' := [(3, .int (y3 + 1)), (1, .int y1), (2, .int y2), (0, .ref q)]) hx hb dX2_hasBelow_22 hl (k := 2) rfl rfl (by decide) rfl (fun ls hl => ?_)
          refine lv_goto (tgt := 2) hx hb dX2_hasBelow_25 (by decide) ?_
          exact ih2 y1 y2 (y3 + 1) _ _ ls hR hF hP hD hS (lv_sub hl [1, 2, 0, 3] rfl)
        · rw [if_neg c2] at hR hF
          refine lv_iconst (v := 1) hx hb dX2_hasBelow_20 (by decide) ?_
          subst hR
          exact krZ hx hb hr hlk hP hD hS dX2_hasBelow_21 (by decide) rfl rfl
  exact loop2 kfu x1 x2 0 _ _ ls hR hF hP hD hS (lv_sub hl [2, 3, 0, 1] rfl)

theorem hdX2_increase : yX2_increase.cls = RX2 ∧ yX2_increase.cls ≠ "java/lang/invoke/MethodHandle" ∧ yX2_increase.cls ≠ "java/lang/invoke/VarHandle" ∧ (parseMethodDescriptor yX2_increase.desc).map (fun d => d.parameters.length) = some 1 := by decide +kernel
def fx2_increase_L2 (w rm : Int32) (n : Nat) : Nat → Int32 → Int32 → Tb → Tb
  | 0, _, _, T => T
  | n2 + 1, y1, y2, T => (if T.1 ≤ y2 then T else (bnd (fx2_put w rm n T y2 y1 ((fx2_get w rm n T y2 y1) + 1)) (fun T2 => fx2_increase_L2 w rm n n2 y1 (y2 + 1) T2)))
def sx2_increase_L2 (w rm : Int32) (n : Nat) : Nat → Int32 → Int32 → Tb → Prop
  | 0, _, _, _ => False
  | n2 + 1, y1, y2, T => (if T.1 ≤ y2 then True else (bnd (fx2_put w rm n T y2 y1 ((fx2_get w rm n T y2 y1) + 1)) (fun T2 => sx2_increase_L2 w rm n n2 y1 (y2 + 1) T2)))
def fx2_increase (w rm : Int32) (n : Nat) (T : Tb) (x1 : Int32) : Tb := fx2_increase_L2 w rm n kfu x1 0 T
def sx2_increase (w rm : Int32) (n : Nat) (T : Tb) (x1 : Int32) : Prop := sx2_increase_L2 w rm n kfu x1 0 T
set_option maxHeartbeats 4000000 in
set_option maxRecDepth 100000 in
theorem cx2_increase {l : Launch} {D : va_G} {cI cB cS cJ : ClassId} {K : State → Prop} (E : kE D cI cB cS cJ K) (q qc : Nat) (w rm : Int32) (n : Nat) (hn : n < 2147483648) (T : Tb) (x1 : Int32) (hF : sx2_increase w rm n T x1) : kV l D K yX2_increase wsX2_increase 1 24 [.ref q, .int x1] (tbW cI q qc w rm n T)  (tbW cI q qc w rm n (fx2_increase w rm n T x1)) := by
  refine kV_of (own := RX2) (cc := cX2_increase) (maxL := 3) (tys := kty cI cB cS cJ) (fun U h => (E.2 U h).1) (by decide) rfl rfl (Nat.le_of_ble_eq_true rfl) ?_
  intro p e s m below meth c A ls hx hb hr hml hts hown hlk hKs hK hP hD hA hS hl
  have hl : lv_has ls 3 [(0, .ref q), (1, .int x1)] := hl
  have hX : CallFix p m c cX2_increase 3 s _ wsX2_increase RX2 := ⟨hx, hb, hml, hown, hts⟩
  have hinX2 : ∀ w ∈ wsX20, w ∈ wsX2_increase := fun w h => List.mem_cons_of_mem _ (List.mem_append_right _ h)
  have q1 := hts (.fieldLink RX2 9 "LabelStation$Table" "rows" "I") (List.mem_of_getElem? (i := 1) rfl)
  generalize hR : fx2_increase w rm n T x1 = R
  rw [fx2_increase] at hR
  rw [sx2_increase] at hF
  refine lv_iconst (v := 0) hx hb dX2_increase_0 (by decide) ?_
  refine lv_istore_n (lv' := [(2, .int 0), (0, .ref q), (1, .int x1)]) hx hb dX2_increase_1 rfl hl (by decide) rfl (fun ls hl => ?_)
  have loop2 : ∀ (n2 : Nat) (y1 : Int32) (y2 : Int32) (T : Tb) (H : Heap) (locs : List Loc) (ls : Array Slot), fx2_increase_L2 w rm n n2 y1 y2 T = R → sx2_increase_L2 w rm n n2 y1 y2 T → va_P D vwCl (tbW cI q qc w rm n T) H → va_D A (tbW cI q qc w rm n T) → va_S A s.heap H locs → lv_has ls 3 [(1, .int y1), (2, .int y2), (0, .ref q)] → W p l e (kRm 1 24) s m ([.ref q, .int x1] : List Value).toArray below meth c H locs 0 0 (kQV D below (tbW cI q qc w rm n R) A ([.ref q, .int x1] : List Value).toArray s) (F0 m 2 ls []) := by
    intro n2
    induction n2 with
    | zero => intro y1 y2 T H locs ls hR hF; exact hF.elim
    | succ n2 ih2 =>
      intro y1 y2 T H locs ls hR hF hP hD hS hl
      rw [fx2_increase_L2] at hR
      rw [sx2_increase_L2] at hF
      refine lv_iload_n hx hb dX2_increase_2 rfl (lv_at hl 1 rfl) ?_
      refine lv_aload_n hx hb dX2_increase_3 rfl (lv_at hl 2 rfl) ?_
      refine va_get (D := D) (ci := 2) (v := .int T.1) (C := RX2) (T := TX2) (N := 4) hx hb hts hinX2 hown hK hP 0 rfl rfl 3 (by decide) q1 (fun _ h9 => h9) rfl dX2_increase_4 ?_
      refine lv_icmp_ge (tgt := 30) hx hb dX2_increase_7 (by decide) (fun c1 => ?_) (fun c1 => ?_)
      · rw [if_pos c1] at hR hF
        subst hR
        exact krV hx hb hr hlk hP hD hS dX2_increase_30 rfl
      · rw [if_neg c1] at hR hF
        refine lv_aload_n hx hb dX2_increase_10 rfl (lv_at hl 2 rfl) ?_
        refine lv_iload_n hx hb dX2_increase_11 rfl (lv_at hl 1 rfl) ?_
        refine lv_iload_n hx hb dX2_increase_12 rfl (lv_at hl 0 rfl) ?_
        refine lv_aload_n hx hb dX2_increase_13 rfl (lv_at hl 2 rfl) ?_
        refine lv_iload_n hx hb dX2_increase_14 rfl (lv_at hl 1 rfl) ?_
        refine lv_iload_n hx hb dX2_increase_15 rfl (lv_at hl 0 rfl) ?_
        refine kcI (ci := 2) (q0 := 0) (As := [.int y2, .int y1]) (rest := [.int y1, .int y2, .ref q]) E.1 (cx2_get E q qc w rm n hn T y2 y1) hX (cwV 2 hts gX2_increase_X2_get rfl rfl rfl hdX2_get ⟨Nat.le_of_ble_eq_true rfl, Nat.le_of_ble_eq_true rfl⟩) hKs hK hP hD hS hA _ _ (kw_self _) (kw_self _).symm rfl rfl rfl rfl hl.1 (Nat.le_of_ble_eq_true rfl) dX2_increase_16 ⟨Nat.zero_le _, Nat.zero_le _⟩ (fun H locs hP hD hS => ?_)
        refine lv_iconst (v := 1) hx hb dX2_increase_19 (by decide) ?_
        refine lv_iadd hx hb dX2_increase_20 ?_
        refine kcV (ci := 2) (q0 := 0) (As := [.int y2, .int y1, .int ((fx2_get w rm n T y2 y1) + 1)]) (rest := []) E.1 (cx2_put E q qc w rm n hn T y2 y1 ((fx2_get w rm n T y2 y1) + 1)) hX (cwV 3 hts gX2_increase_X2_put rfl rfl rfl hdX2_put ⟨Nat.le_of_ble_eq_true rfl, Nat.le_of_ble_eq_true rfl⟩) hKs hK hP hD hS hA _ _ (kw_self _) (kw_self _).symm rfl rfl rfl rfl hl.1 (Nat.le_of_ble_eq_true rfl) dX2_increase_21 ⟨Nat.zero_le _, Nat.zero_le _⟩ (fun H locs hP hD hS => ?_)
        have hP : va_P D vwCl (tbW cI q qc w rm n (fx2_put w rm n T y2 y1 ((fx2_get w rm n T y2 y1) + 1))) H := hP
        have hD : va_D A (tbW cI q qc w rm n (fx2_put w rm n T y2 y1 ((fx2_get w rm n T y2 y1) + 1))) := hD
        generalize eT2 : fx2_put w rm n T y2 y1 ((fx2_get w rm n T y2 y1) + 1) = T2 at hR hF hP hD
        replace hR := bnd_e hR
        replace hF := bnd_p hF
        refine lv_iinc (v := y2 + 1) (lv' := [(2, .int (y2 + 1)), (1, .int y1), (0, .ref q)]) hx hb dX2_increase_24 hl (k := 1) rfl rfl (by decide) rfl (fun ls hl => ?_)
        refine lv_goto (tgt := 2) hx hb dX2_increase_27 (by decide) ?_
        exact ih2 y1 (y2 + 1) T2 _ _ ls hR hF hP hD hS (lv_sub hl [1, 0, 2] rfl)
  exact loop2 kfu x1 0 T _ _ ls hR hF hP hD hS (lv_sub hl [2, 0, 1] rfl)

theorem hdX2_addRow : yX2_addRow.cls = RX2 ∧ yX2_addRow.cls ≠ "java/lang/invoke/MethodHandle" ∧ yX2_addRow.cls ≠ "java/lang/invoke/VarHandle" ∧ (parseMethodDescriptor yX2_addRow.desc).map (fun d => d.parameters.length) = some 1 := by decide +kernel
def fx2_addRow_L37 (w rm : Int32) (n : Nat) : Nat → Int32 → Int32 → Int32 → Tb → Int32 × (Tb)
  | 0, _, _, _, T => (0, T)
  | n37 + 1, y1, y2, y3, T => (if w ≤ y3 then (y2, T) else (bnd (fx2_put w rm n T y2 y3 0) (fun T4 => fx2_addRow_L37 w rm n n37 y1 y2 (y3 + 1) T4)))
def sx2_addRow_L37 (w rm : Int32) (n : Nat) : Nat → Int32 → Int32 → Int32 → Tb → Prop
  | 0, _, _, _, _ => False
  | n37 + 1, y1, y2, y3, T => (if w ≤ y3 then True else (bnd (fx2_put w rm n T y2 y3 0) (fun T4 => sx2_addRow_L37 w rm n n37 y1 y2 (y3 + 1) T4)))
def fx2_addRow (w rm : Int32) (n : Nat) (T : Tb) (x1 : Int32) : Int32 × (Tb) := (if T.1 < rm then (bnd (fx2_put w rm n (T.1 + 1, T.2) T.1 0 x1) (fun T2 => fx2_addRow_L37 w rm n kfu x1 T.1 1 T2)) else ((-1), T))
def sx2_addRow (w rm : Int32) (n : Nat) (T : Tb) (x1 : Int32) : Prop := (if T.1 < rm then (bnd (fx2_put w rm n (T.1 + 1, T.2) T.1 0 x1) (fun T2 => sx2_addRow_L37 w rm n kfu x1 T.1 1 T2)) else True)
set_option maxHeartbeats 4000000 in
set_option maxRecDepth 100000 in
theorem cx2_addRow {l : Launch} {D : va_G} {cI cB cS cJ : ClassId} {K : State → Prop} (E : kE D cI cB cS cJ K) (q qc : Nat) (w rm : Int32) (n : Nat) (hn : n < 2147483648) (T : Tb) (x1 : Int32) (hF : sx2_addRow w rm n T x1) : kI l D K yX2_addRow wsX2_addRow 1 24 [.ref q, .int x1] (tbW cI q qc w rm n T) (fx2_addRow w rm n T x1).1 (tbW cI q qc w rm n ((fx2_addRow w rm n T x1).2)) := by
  refine kI_of (own := RX2) (cc := cX2_addRow) (maxL := 4) (tys := kty cI cB cS cJ) (fun U h => (E.2 U h).1) (by decide) rfl rfl (Nat.le_of_ble_eq_true rfl) ?_
  intro p e s m below meth c A ls hx hb hr hml hts hown hlk hKs hK hP hD hA hS hl
  have hl : lv_has ls 4 [(0, .ref q), (1, .int x1)] := hl
  have hX : CallFix p m c cX2_addRow 4 s _ wsX2_addRow RX2 := ⟨hx, hb, hml, hown, hts⟩
  have hinX2 : ∀ w ∈ wsX20, w ∈ wsX2_addRow := fun w h => List.mem_cons_of_mem _ (List.mem_append_right _ h)
  have q1 := hts (.fieldLink RX2 9 "LabelStation$Table" "rows" "I") (List.mem_of_getElem? (i := 1) rfl)
  have q2 := hts (.fieldLink RX2 24 "LabelStation$Table" "room" "I") (List.mem_of_getElem? (i := 2) rfl)
  have q3 := hts (.fieldLink RX2 21 "LabelStation$Table" "width" "I") (List.mem_of_getElem? (i := 3) rfl)
  generalize hR : fx2_addRow w rm n T x1 = R
  rw [fx2_addRow] at hR
  rw [sx2_addRow] at hF
  refine lv_aload_n hx hb dX2_addRow_0 rfl (lv_at hl 0 rfl) ?_
  refine va_get (D := D) (ci := 2) (v := .int T.1) (C := RX2) (T := TX2) (N := 4) hx hb hts hinX2 hown hK hP 0 rfl rfl 3 (by decide) q1 (fun _ h9 => h9) rfl dX2_addRow_1 ?_
  refine lv_aload_n hx hb dX2_addRow_4 rfl (lv_at hl 0 rfl) ?_
  refine va_get (D := D) (ci := 2) (v := .int rm) (C := RX2) (T := TX2) (N := 4) hx hb hts hinX2 hown hK hP 0 rfl rfl 1 (by decide) q2 (fun _ h9 => h9) rfl dX2_addRow_5 ?_
  refine lv_icmp_lt (tgt := 13) hx hb dX2_addRow_8 (by decide) (fun c1 => ?_) (fun c1 => ?_)
  · rw [if_pos c1] at hR hF
    refine lv_aload_n hx hb dX2_addRow_13 rfl (lv_at hl 0 rfl) ?_
    refine va_get (D := D) (ci := 2) (v := .int T.1) (C := RX2) (T := TX2) (N := 4) hx hb hts hinX2 hown hK hP 0 rfl rfl 3 (by decide) q1 (fun _ h9 => h9) rfl dX2_addRow_14 ?_
    refine lv_istore_n (lv' := [(2, .int T.1), (0, .ref q), (1, .int x1)]) hx hb dX2_addRow_17 rfl hl (by decide) rfl (fun ls hl => ?_)
    refine lv_aload_n hx hb dX2_addRow_18 rfl (lv_at hl 1 rfl) ?_
    refine lv_dup hx hb dX2_addRow_19 rfl ?_
    refine va_get (D := D) (ci := 2) (v := .int T.1) (C := RX2) (T := TX2) (N := 4) hx hb hts hinX2 hown hK hP 0 rfl rfl 3 (by decide) q1 (fun _ h9 => h9) rfl dX2_addRow_20 ?_
    refine lv_iconst (v := 1) hx hb dX2_addRow_23 (by decide) ?_
    refine lv_iadd hx hb dX2_addRow_24 ?_
    refine va_put (D := D) (ci := 2) (v := .int (T.1 + 1)) (ty := .int) (C := RX2) (T := TX2) (N := 4) hx hb hts hinX2 tyX2 tyX2_ok nmX2 hown hK hP hD hS 0 rfl rfl 3 (by decide) q1 (fun _ h9 => h9) rfl (by decide +kernel) rfl rfl (Nat.le_of_ble_eq_true rfl) dX2_addRow_25 (fun H locs hP hD hS => ?_)
    have hP : va_P D vwCl (tbW cI q qc w rm n (T.1 + 1, T.2)) H := hP
    have hD : va_D A (tbW cI q qc w rm n (T.1 + 1, T.2)) := hD
    refine lv_aload_n hx hb dX2_addRow_28 rfl (lv_at hl 1 rfl) ?_
    refine lv_iload_n hx hb dX2_addRow_29 rfl (lv_at hl 0 rfl) ?_
    refine lv_iconst (v := 0) hx hb dX2_addRow_30 (by decide) ?_
    refine lv_iload_n hx hb dX2_addRow_31 rfl (lv_at hl 2 rfl) ?_
    refine kcV (ci := 2) (q0 := 0) (As := [.int T.1, .int 0, .int x1]) (rest := []) E.1 (cx2_put E q qc w rm n hn (T.1 + 1, T.2) T.1 0 x1) hX (cwV 3 hts gX2_addRow_X2_put rfl rfl rfl hdX2_put ⟨Nat.le_of_ble_eq_true rfl, Nat.le_of_ble_eq_true rfl⟩) hKs hK hP hD hS hA _ _ (kw_self _) (kw_self _).symm rfl rfl rfl rfl hl.1 (Nat.le_of_ble_eq_true rfl) dX2_addRow_32 ⟨Nat.zero_le _, Nat.zero_le _⟩ (fun H locs hP hD hS => ?_)
    have hP : va_P D vwCl (tbW cI q qc w rm n (fx2_put w rm n (T.1 + 1, T.2) T.1 0 x1)) H := hP
    have hD : va_D A (tbW cI q qc w rm n (fx2_put w rm n (T.1 + 1, T.2) T.1 0 x1)) := hD
    generalize eT2 : fx2_put w rm n (T.1 + 1, T.2) T.1 0 x1 = T2 at hR hF hP hD
    replace hR := bnd_e hR
    replace hF := bnd_p hF
    refine lv_iconst (v := 1) hx hb dX2_addRow_35 (by decide) ?_
    refine lv_istore_n (lv' := [(3, .int 1), (2, .int T.1), (0, .ref q), (1, .int x1)]) hx hb dX2_addRow_36 rfl hl (by decide) rfl (fun ls hl => ?_)
    have loop37 : ∀ (n37 : Nat) (y1 : Int32) (y2 : Int32) (y3 : Int32) (T : Tb) (H : Heap) (locs : List Loc) (ls : Array Slot), fx2_addRow_L37 w rm n n37 y1 y2 y3 T = R → sx2_addRow_L37 w rm n n37 y1 y2 y3 T → va_P D vwCl (tbW cI q qc w rm n T) H → va_D A (tbW cI q qc w rm n T) → va_S A s.heap H locs → lv_has ls 4 [(1, .int y1), (2, .int y2), (3, .int y3), (0, .ref q)] → W p l e (kRm 1 24) s m ([.ref q, .int x1] : List Value).toArray below meth c H locs 0 0 (kQI D below R.1 (tbW cI q qc w rm n R.2) A ([.ref q, .int x1] : List Value).toArray s) (F0 m 37 ls []) := by
      intro n37
      induction n37 with
      | zero => intro y1 y2 y3 T H locs ls hR hF; exact hF.elim
      | succ n37 ih37 =>
        intro y1 y2 y3 T H locs ls hR hF hP hD hS hl
        rw [fx2_addRow_L37] at hR
        rw [sx2_addRow_L37] at hF
        refine lv_iload_n hx hb dX2_addRow_37 rfl (lv_at hl 2 rfl) ?_
        refine lv_aload_n hx hb dX2_addRow_38 rfl (lv_at hl 3 rfl) ?_
        refine va_get (D := D) (ci := 2) (v := .int w) (C := RX2) (T := TX2) (N := 4) hx hb hts hinX2 hown hK hP 0 rfl rfl 0 (by decide) q3 (fun _ h9 => h9) rfl dX2_addRow_39 ?_
        refine lv_icmp_ge (tgt := 58) hx hb dX2_addRow_42 (by decide) (fun c3 => ?_) (fun c3 => ?_)
        · rw [if_pos c3] at hR hF
          refine lv_iload_n hx hb dX2_addRow_58 rfl (lv_at hl 1 rfl) ?_
          subst hR
          exact krI hx hb hr hlk hP hD hS dX2_addRow_59 rfl rfl
        · rw [if_neg c3] at hR hF
          refine lv_aload_n hx hb dX2_addRow_45 rfl (lv_at hl 3 rfl) ?_
          refine lv_iload_n hx hb dX2_addRow_46 rfl (lv_at hl 1 rfl) ?_
          refine lv_iload_n hx hb dX2_addRow_47 rfl (lv_at hl 2 rfl) ?_
          refine lv_iconst (v := 0) hx hb dX2_addRow_48 (by decide) ?_
          refine kcV (ci := 2) (q0 := 0) (As := [.int y2, .int y3, .int 0]) (rest := []) E.1 (cx2_put E q qc w rm n hn T y2 y3 0) hX (cwV 3 hts gX2_addRow_X2_put rfl rfl rfl hdX2_put ⟨Nat.le_of_ble_eq_true rfl, Nat.le_of_ble_eq_true rfl⟩) hKs hK hP hD hS hA _ _ (kw_self _) (kw_self _).symm rfl rfl rfl rfl hl.1 (Nat.le_of_ble_eq_true rfl) dX2_addRow_49 ⟨Nat.zero_le _, Nat.zero_le _⟩ (fun H locs hP hD hS => ?_)
          have hP : va_P D vwCl (tbW cI q qc w rm n (fx2_put w rm n T y2 y3 0)) H := hP
          have hD : va_D A (tbW cI q qc w rm n (fx2_put w rm n T y2 y3 0)) := hD
          generalize eT4 : fx2_put w rm n T y2 y3 0 = T4 at hR hF hP hD
          replace hR := bnd_e hR
          replace hF := bnd_p hF
          refine lv_iinc (v := y3 + 1) (lv' := [(3, .int (y3 + 1)), (1, .int y1), (2, .int y2), (0, .ref q)]) hx hb dX2_addRow_52 hl (k := 2) rfl rfl (by decide) rfl (fun ls hl => ?_)
          refine lv_goto (tgt := 37) hx hb dX2_addRow_55 (by decide) ?_
          exact ih37 y1 y2 (y3 + 1) T4 _ _ ls hR hF hP hD hS (lv_sub hl [1, 2, 0, 3] rfl)
    exact loop37 kfu x1 T.1 1 T2 _ _ ls hR hF hP hD hS (lv_sub hl [3, 1, 0, 2] rfl)
  · rw [if_neg c1] at hR hF
    refine lv_iconst (v := (-1)) hx hb dX2_addRow_11 (by decide) ?_
    subst hR
    exact krI hx hb hr hlk hP hD hS dX2_addRow_12 rfl rfl

theorem hdX2_removeRow : yX2_removeRow.cls = RX2 ∧ yX2_removeRow.cls ≠ "java/lang/invoke/MethodHandle" ∧ yX2_removeRow.cls ≠ "java/lang/invoke/VarHandle" ∧ (parseMethodDescriptor yX2_removeRow.desc).map (fun d => d.parameters.length) = some 1 := by decide +kernel
def fx2_removeRow_L30 (w rm : Int32) (n : Nat) : Nat → Int32 → Int32 → Tb → Tb
  | 0, _, _, T => T
  | n30 + 1, y1, y2, T => (if (T.1 * w) ≤ y2 then T else (if (nI n) ≤ (y2 + w) then T else fx2_removeRow_L30 w rm n n30 y1 (y2 + 1) (T.1, upd T.2 (y2).toNatClampNeg (T.2 (y2 + w).toNatClampNeg))))
def sx2_removeRow_L30 (w rm : Int32) (n : Nat) : Nat → Int32 → Int32 → Tb → Prop
  | 0, _, _, _ => False
  | n30 + 1, y1, y2, T => (if (T.1 * w) ≤ y2 then True else (if (nI n) ≤ (y2 + w) then True else (vp_in (y2 + w) n ∧ (vp_in (y2) n ∧ sx2_removeRow_L30 w rm n n30 y1 (y2 + 1) (T.1, upd T.2 (y2).toNatClampNeg (T.2 (y2 + w).toNatClampNeg))))))
def fx2_removeRow (w rm : Int32) (n : Nat) (T : Tb) (x1 : Int32) : Tb := (if x1 < 0 then T else (if x1 < T.1 then fx2_removeRow_L30 w rm n kfu x1 (x1 * w) (T.1 - 1, T.2) else T))
def sx2_removeRow (w rm : Int32) (n : Nat) (T : Tb) (x1 : Int32) : Prop := (if x1 < 0 then True else (if x1 < T.1 then sx2_removeRow_L30 w rm n kfu x1 (x1 * w) (T.1 - 1, T.2) else True))
set_option maxHeartbeats 4000000 in
set_option maxRecDepth 100000 in
theorem cx2_removeRow {l : Launch} {D : va_G} {cI cB cS cJ : ClassId} {K : State → Prop} (E : kE D cI cB cS cJ K) (q qc : Nat) (w rm : Int32) (n : Nat) (hn : n < 2147483648) (T : Tb) (x1 : Int32) (hF : sx2_removeRow w rm n T x1) : kV l D K yX2_removeRow wsX2_removeRow 0 0 [.ref q, .int x1] (tbW cI q qc w rm n T)  (tbW cI q qc w rm n (fx2_removeRow w rm n T x1)) := by
  refine kV_of (own := RX2) (cc := cX2_removeRow) (maxL := 3) (tys := kty cI cB cS cJ) (fun U h => (E.2 U h).1) (by decide) rfl rfl (Nat.le_of_ble_eq_true rfl) ?_
  intro p e s m below meth c A ls hx hb hr hml hts hown hlk hKs hK hP hD hA hS hl
  have hl : lv_has ls 3 [(0, .ref q), (1, .int x1)] := hl
  have hX : CallFix p m c cX2_removeRow 3 s _ wsX2_removeRow RX2 := ⟨hx, hb, hml, hown, hts⟩
  have hinX2 : ∀ w ∈ wsX20, w ∈ wsX2_removeRow := fun w h => List.mem_cons_of_mem _ (List.mem_append_right _ h)
  have q1 := hts (.fieldLink RX2 9 "LabelStation$Table" "rows" "I") (List.mem_of_getElem? (i := 1) rfl)
  have q2 := hts (.fieldLink RX2 21 "LabelStation$Table" "width" "I") (List.mem_of_getElem? (i := 2) rfl)
  have q3 := hts (.fieldLink RX2 27 "LabelStation$Table" "cells" "[I") (List.mem_of_getElem? (i := 3) rfl)
  generalize hR : fx2_removeRow w rm n T x1 = R
  rw [fx2_removeRow] at hR
  rw [sx2_removeRow] at hF
  refine lv_iload_n hx hb dX2_removeRow_0 rfl (lv_at hl 1 rfl) ?_
  refine lv_if_lt (tgt := 12) hx hb dX2_removeRow_1 (by decide) (fun c1 => ?_) (fun c1 => ?_)
  · rw [if_pos c1] at hR hF
    subst hR
    exact krV hx hb hr hlk hP hD hS dX2_removeRow_12 rfl
  · rw [if_neg c1] at hR hF
    refine lv_iload_n hx hb dX2_removeRow_4 rfl (lv_at hl 1 rfl) ?_
    refine lv_aload_n hx hb dX2_removeRow_5 rfl (lv_at hl 0 rfl) ?_
    refine va_get (D := D) (ci := 2) (v := .int T.1) (C := RX2) (T := TX2) (N := 4) hx hb hts hinX2 hown hK hP 0 rfl rfl 3 (by decide) q1 (fun _ h9 => h9) rfl dX2_removeRow_6 ?_
    refine lv_icmp_lt (tgt := 13) hx hb dX2_removeRow_9 (by decide) (fun c2 => ?_) (fun c2 => ?_)
    · rw [if_pos c2] at hR hF
      refine lv_aload_n hx hb dX2_removeRow_13 rfl (lv_at hl 0 rfl) ?_
      refine lv_dup hx hb dX2_removeRow_14 rfl ?_
      refine va_get (D := D) (ci := 2) (v := .int T.1) (C := RX2) (T := TX2) (N := 4) hx hb hts hinX2 hown hK hP 0 rfl rfl 3 (by decide) q1 (fun _ h9 => h9) rfl dX2_removeRow_15 ?_
      refine lv_iconst (v := 1) hx hb dX2_removeRow_18 (by decide) ?_
      refine lv_isub hx hb dX2_removeRow_19 ?_
      refine va_put (D := D) (ci := 2) (v := .int (T.1 - 1)) (ty := .int) (C := RX2) (T := TX2) (N := 4) hx hb hts hinX2 tyX2 tyX2_ok nmX2 hown hK hP hD hS 0 rfl rfl 3 (by decide) q1 (fun _ h9 => h9) rfl (by decide +kernel) rfl rfl (Nat.le_of_ble_eq_true rfl) dX2_removeRow_20 (fun H locs hP hD hS => ?_)
      have hP : va_P D vwCl (tbW cI q qc w rm n (T.1 - 1, T.2)) H := hP
      have hD : va_D A (tbW cI q qc w rm n (T.1 - 1, T.2)) := hD
      refine lv_iload_n hx hb dX2_removeRow_23 rfl (lv_at hl 1 rfl) ?_
      refine lv_aload_n hx hb dX2_removeRow_24 rfl (lv_at hl 0 rfl) ?_
      refine va_get (D := D) (ci := 2) (v := .int w) (C := RX2) (T := TX2) (N := 4) hx hb hts hinX2 hown hK hP 0 rfl rfl 0 (by decide) q2 (fun _ h9 => h9) rfl dX2_removeRow_25 ?_
      refine lv_imul hx hb dX2_removeRow_28 ?_
      refine lv_istore_n (lv' := [(2, .int (x1 * w)), (0, .ref q), (1, .int x1)]) hx hb dX2_removeRow_29 rfl hl (by decide) rfl (fun ls hl => ?_)
      have loop30 : ∀ (n30 : Nat) (y1 : Int32) (y2 : Int32) (T : Tb) (H : Heap) (locs : List Loc) (ls : Array Slot), fx2_removeRow_L30 w rm n n30 y1 y2 T = R → sx2_removeRow_L30 w rm n n30 y1 y2 T → va_P D vwCl (tbW cI q qc w rm n T) H → va_D A (tbW cI q qc w rm n T) → va_S A s.heap H locs → lv_has ls 3 [(1, .int y1), (2, .int y2), (0, .ref q)] → W p l e (kRm 0 0) s m ([.ref q, .int x1] : List Value).toArray below meth c H locs 0 0 (kQV D below (tbW cI q qc w rm n R) A ([.ref q, .int x1] : List Value).toArray s) (F0 m 30 ls []) := by
        intro n30
        induction n30 with
        | zero => intro y1 y2 T H locs ls hR hF; exact hF.elim
        | succ n30 ih30 =>
          intro y1 y2 T H locs ls hR hF hP hD hS hl
          rw [fx2_removeRow_L30] at hR
          rw [sx2_removeRow_L30] at hF
          refine lv_iload_n hx hb dX2_removeRow_30 rfl (lv_at hl 1 rfl) ?_
          refine lv_aload_n hx hb dX2_removeRow_31 rfl (lv_at hl 2 rfl) ?_
          refine va_get (D := D) (ci := 2) (v := .int T.1) (C := RX2) (T := TX2) (N := 4) hx hb hts hinX2 hown hK hP 0 rfl rfl 3 (by decide) q1 (fun _ h9 => h9) rfl dX2_removeRow_32 ?_
          refine lv_aload_n hx hb dX2_removeRow_35 rfl (lv_at hl 2 rfl) ?_
          refine va_get (D := D) (ci := 2) (v := .int w) (C := RX2) (T := TX2) (N := 4) hx hb hts hinX2 hown hK hP 0 rfl rfl 0 (by decide) q2 (fun _ h9 => h9) rfl dX2_removeRow_36 ?_
          refine lv_imul hx hb dX2_removeRow_39 ?_
          refine lv_icmp_ge (tgt := 80) hx hb dX2_removeRow_40 (by decide) (fun c3 => ?_) (fun c3 => ?_)
          · rw [if_pos c3] at hR hF
            subst hR
            exact krV hx hb hr hlk hP hD hS dX2_removeRow_80 rfl
          · rw [if_neg c3] at hR hF
            refine lv_iload_n hx hb dX2_removeRow_43 rfl (lv_at hl 1 rfl) ?_
            refine lv_aload_n hx hb dX2_removeRow_44 rfl (lv_at hl 2 rfl) ?_
            refine va_get (D := D) (ci := 2) (v := .int w) (C := RX2) (T := TX2) (N := 4) hx hb hts hinX2 hown hK hP 0 rfl rfl 0 (by decide) q2 (fun _ h9 => h9) rfl dX2_removeRow_45 ?_
            refine lv_iadd hx hb dX2_removeRow_48 ?_
            refine lv_aload_n hx hb dX2_removeRow_49 rfl (lv_at hl 2 rfl) ?_
            refine va_get (D := D) (ci := 2) (v := .ref qc) (C := RX2) (T := TX2) (N := 4) hx hb hts hinX2 hown hK hP 0 rfl rfl 2 (by decide) q3 (fun _ h9 => h9) rfl dX2_removeRow_50 ?_
            refine va_alen (v := nI n) hx hb hK hP 1 0 rfl rfl rfl dX2_removeRow_53 ?_
            refine lv_icmp_ge (tgt := 80) hx hb dX2_removeRow_54 (by decide) (fun c4 => ?_) (fun c4 => ?_)
            · rw [if_pos c4] at hR hF
              subst hR
              exact krV hx hb hr hlk hP hD hS dX2_removeRow_80 rfl
            · rw [if_neg c4] at hR hF
              refine lv_aload_n hx hb dX2_removeRow_57 rfl (lv_at hl 2 rfl) ?_
              refine va_get (D := D) (ci := 2) (v := .ref qc) (C := RX2) (T := TX2) (N := 4) hx hb hts hinX2 hown hK hP 0 rfl rfl 2 (by decide) q3 (fun _ h9 => h9) rfl dX2_removeRow_58 ?_
              refine lv_iload_n hx hb dX2_removeRow_61 rfl (lv_at hl 1 rfl) ?_
              refine lv_aload_n hx hb dX2_removeRow_62 rfl (lv_at hl 2 rfl) ?_
              refine va_get (D := D) (ci := 2) (v := .ref qc) (C := RX2) (T := TX2) (N := 4) hx hb hts hinX2 hown hK hP 0 rfl rfl 2 (by decide) q3 (fun _ h9 => h9) rfl dX2_removeRow_63 ?_
              refine lv_iload_n hx hb dX2_removeRow_66 rfl (lv_at hl 1 rfl) ?_
              refine lv_aload_n hx hb dX2_removeRow_67 rfl (lv_at hl 2 rfl) ?_
              refine va_get (D := D) (ci := 2) (v := .int w) (C := RX2) (T := TX2) (N := 4) hx hb hts hinX2 hown hK hP 0 rfl rfl 0 (by decide) q2 (fun _ h9 => h9) rfl dX2_removeRow_68 ?_
              refine lv_iadd hx hb dX2_removeRow_71 ?_
              obtain ⟨hi5, hF⟩ := hF
              refine va_iald hx hb hK hP 1 0 rfl rfl hi5 dX2_removeRow_72 ?_
              obtain ⟨hi6, hF⟩ := hF
              refine va_iast hx hb hK hP hD hS 1 0 rfl rfl hi6 dX2_removeRow_73 (fun H locs hP hD hS => ?_)
              have hP : va_P D vwCl (tbW cI q qc w rm n (T.1, upd T.2 (y2).toNatClampNeg (T.2 (y2 + w).toNatClampNeg))) H := hP
              have hD : va_D A (tbW cI q qc w rm n (T.1, upd T.2 (y2).toNatClampNeg (T.2 (y2 + w).toNatClampNeg))) := hD
              refine lv_iinc (v := y2 + 1) (lv' := [(2, .int (y2 + 1)), (1, .int y1), (0, .ref q)]) hx hb dX2_removeRow_74 hl (k := 1) rfl rfl (by decide) rfl (fun ls hl => ?_)
              refine lv_goto (tgt := 30) hx hb dX2_removeRow_77 (by decide) ?_
              exact ih30 y1 (y2 + 1) (T.1, upd T.2 (y2).toNatClampNeg (T.2 (y2 + w).toNatClampNeg)) _ _ ls hR hF hP hD hS (lv_sub hl [1, 0, 2] rfl)
      exact loop30 kfu x1 (x1 * w) (T.1 - 1, T.2) _ _ ls hR hF hP hD hS (lv_sub hl [2, 0, 1] rfl)
    · rw [if_neg c2] at hR hF
      subst hR
      exact krV hx hb hr hlk hP hD hS dX2_removeRow_12 rfl

theorem hdX2_removeRowsOf : yX2_removeRowsOf.cls = RX2 ∧ yX2_removeRowsOf.cls ≠ "java/lang/invoke/MethodHandle" ∧ yX2_removeRowsOf.cls ≠ "java/lang/invoke/VarHandle" ∧ (parseMethodDescriptor yX2_removeRowsOf.desc).map (fun d => d.parameters.length) = some 1 := by decide +kernel
def fx2_removeRowsOf_L7 (w rm : Int32) (n : Nat) : Nat → Int32 → Int32 → Tb → Tb
  | 0, _, _, T => T
  | n7 + 1, y1, y2, T => (if y2 < 0 then T else (if (fx2_get w rm n T y2 0) = y1 then (bnd (fx2_removeRow w rm n T y2) (fun T3 => fx2_removeRowsOf_L7 w rm n n7 y1 (y2 + (-1)) T3)) else fx2_removeRowsOf_L7 w rm n n7 y1 (y2 + (-1)) T))
def sx2_removeRowsOf_L7 (w rm : Int32) (n : Nat) : Nat → Int32 → Int32 → Tb → Prop
  | 0, _, _, _ => False
  | n7 + 1, y1, y2, T => (if y2 < 0 then True else (if (fx2_get w rm n T y2 0) = y1 then (sx2_removeRow w rm n T y2 ∧ (bnd (fx2_removeRow w rm n T y2) (fun T3 => sx2_removeRowsOf_L7 w rm n n7 y1 (y2 + (-1)) T3))) else sx2_removeRowsOf_L7 w rm n n7 y1 (y2 + (-1)) T))
def fx2_removeRowsOf (w rm : Int32) (n : Nat) (T : Tb) (x1 : Int32) : Tb := fx2_removeRowsOf_L7 w rm n kfu x1 (T.1 - 1) T
def sx2_removeRowsOf (w rm : Int32) (n : Nat) (T : Tb) (x1 : Int32) : Prop := sx2_removeRowsOf_L7 w rm n kfu x1 (T.1 - 1) T
set_option maxHeartbeats 4000000 in
set_option maxRecDepth 100000 in
theorem cx2_removeRowsOf {l : Launch} {D : va_G} {cI cB cS cJ : ClassId} {K : State → Prop} (E : kE D cI cB cS cJ K) (q qc : Nat) (w rm : Int32) (n : Nat) (hn : n < 2147483648) (T : Tb) (x1 : Int32) (hF : sx2_removeRowsOf w rm n T x1) : kV l D K yX2_removeRowsOf wsX2_removeRowsOf 1 23 [.ref q, .int x1] (tbW cI q qc w rm n T)  (tbW cI q qc w rm n (fx2_removeRowsOf w rm n T x1)) := by
  refine kV_of (own := RX2) (cc := cX2_removeRowsOf) (maxL := 3) (tys := kty cI cB cS cJ) (fun U h => (E.2 U h).1) (by decide) rfl rfl (Nat.le_of_ble_eq_true rfl) ?_
  intro p e s m below meth c A ls hx hb hr hml hts hown hlk hKs hK hP hD hA hS hl
  have hl : lv_has ls 3 [(0, .ref q), (1, .int x1)] := hl
  have hX : CallFix p m c cX2_removeRowsOf 3 s _ wsX2_removeRowsOf RX2 := ⟨hx, hb, hml, hown, hts⟩
  have hinX2 : ∀ w ∈ wsX20, w ∈ wsX2_removeRowsOf := fun w h => List.mem_cons_of_mem _ (List.mem_append_right _ h)
  have q1 := hts (.fieldLink RX2 9 "LabelStation$Table" "rows" "I") (List.mem_of_getElem? (i := 1) rfl)
  generalize hR : fx2_removeRowsOf w rm n T x1 = R
  rw [fx2_removeRowsOf] at hR
  rw [sx2_removeRowsOf] at hF
  refine lv_aload_n hx hb dX2_removeRowsOf_0 rfl (lv_at hl 0 rfl) ?_
  refine va_get (D := D) (ci := 2) (v := .int T.1) (C := RX2) (T := TX2) (N := 4) hx hb hts hinX2 hown hK hP 0 rfl rfl 3 (by decide) q1 (fun _ h9 => h9) rfl dX2_removeRowsOf_1 ?_
  refine lv_iconst (v := 1) hx hb dX2_removeRowsOf_4 (by decide) ?_
  refine lv_isub hx hb dX2_removeRowsOf_5 ?_
  refine lv_istore_n (lv' := [(2, .int (T.1 - 1)), (0, .ref q), (1, .int x1)]) hx hb dX2_removeRowsOf_6 rfl hl (by decide) rfl (fun ls hl => ?_)
  have loop7 : ∀ (n7 : Nat) (y1 : Int32) (y2 : Int32) (T : Tb) (H : Heap) (locs : List Loc) (ls : Array Slot), fx2_removeRowsOf_L7 w rm n n7 y1 y2 T = R → sx2_removeRowsOf_L7 w rm n n7 y1 y2 T → va_P D vwCl (tbW cI q qc w rm n T) H → va_D A (tbW cI q qc w rm n T) → va_S A s.heap H locs → lv_has ls 3 [(1, .int y1), (2, .int y2), (0, .ref q)] → W p l e (kRm 1 23) s m ([.ref q, .int x1] : List Value).toArray below meth c H locs 0 0 (kQV D below (tbW cI q qc w rm n R) A ([.ref q, .int x1] : List Value).toArray s) (F0 m 7 ls []) := by
    intro n7
    induction n7 with
    | zero => intro y1 y2 T H locs ls hR hF; exact hF.elim
    | succ n7 ih7 =>
      intro y1 y2 T H locs ls hR hF hP hD hS hl
      rw [fx2_removeRowsOf_L7] at hR
      rw [sx2_removeRowsOf_L7] at hF
      refine lv_iload_n hx hb dX2_removeRowsOf_7 rfl (lv_at hl 1 rfl) ?_
      refine lv_if_lt (tgt := 32) hx hb dX2_removeRowsOf_8 (by decide) (fun c1 => ?_) (fun c1 => ?_)
      · rw [if_pos c1] at hR hF
        subst hR
        exact krV hx hb hr hlk hP hD hS dX2_removeRowsOf_32 rfl
      · rw [if_neg c1] at hR hF
        refine lv_aload_n hx hb dX2_removeRowsOf_11 rfl (lv_at hl 2 rfl) ?_
        refine lv_iload_n hx hb dX2_removeRowsOf_12 rfl (lv_at hl 1 rfl) ?_
        refine lv_iconst (v := 0) hx hb dX2_removeRowsOf_13 (by decide) ?_
        refine kcI (ci := 2) (q0 := 0) (As := [.int y2, .int 0]) (rest := []) E.1 (cx2_get E q qc w rm n hn T y2 0) hX (cwV 2 hts gX2_removeRowsOf_X2_get rfl rfl rfl hdX2_get ⟨Nat.le_of_ble_eq_true rfl, Nat.le_of_ble_eq_true rfl⟩) hKs hK hP hD hS hA _ _ (kw_self _) (kw_self _).symm rfl rfl rfl rfl hl.1 (Nat.le_of_ble_eq_true rfl) dX2_removeRowsOf_14 ⟨Nat.zero_le _, Nat.zero_le _⟩ (fun H locs hP hD hS => ?_)
        refine lv_iload_n hx hb dX2_removeRowsOf_17 rfl (lv_at hl 0 rfl) ?_
        refine lv_icmp_ne (tgt := 26) hx hb dX2_removeRowsOf_18 (by decide) (fun c2 => ?_) (fun c2 => ?_)
        · rw [if_neg c2] at hR hF
          refine lv_iinc (v := y2 + (-1)) (lv' := [(2, .int (y2 + (-1))), (1, .int y1), (0, .ref q)]) hx hb dX2_removeRowsOf_26 hl (k := 1) rfl rfl (by decide) rfl (fun ls hl => ?_)
          refine lv_goto (tgt := 7) hx hb dX2_removeRowsOf_29 (by decide) ?_
          exact ih7 y1 (y2 + (-1)) T _ _ ls hR hF hP hD hS (lv_sub hl [1, 0, 2] rfl)
        · rw [if_pos c2] at hR hF
          refine lv_aload_n hx hb dX2_removeRowsOf_21 rfl (lv_at hl 2 rfl) ?_
          refine lv_iload_n hx hb dX2_removeRowsOf_22 rfl (lv_at hl 1 rfl) ?_
          obtain ⟨hs4, hF⟩ := hF
          refine kcV (ci := 2) (q0 := 0) (As := [.int y2]) (rest := []) E.1 (cx2_removeRow E q qc w rm n hn T y2 hs4) hX (cwV 1 hts gX2_removeRowsOf_X2_removeRow rfl rfl rfl hdX2_removeRow ⟨Nat.le_of_ble_eq_true rfl, Nat.le_of_ble_eq_true rfl⟩) hKs hK hP hD hS hA _ _ (kw_self _) (kw_self _).symm rfl rfl rfl rfl hl.1 (Nat.le_of_ble_eq_true rfl) dX2_removeRowsOf_23 ⟨Nat.zero_le _, Nat.zero_le _⟩ (fun H locs hP hD hS => ?_)
          have hP : va_P D vwCl (tbW cI q qc w rm n (fx2_removeRow w rm n T y2)) H := hP
          have hD : va_D A (tbW cI q qc w rm n (fx2_removeRow w rm n T y2)) := hD
          generalize eT3 : fx2_removeRow w rm n T y2 = T3 at hR hF hP hD
          replace hR := bnd_e hR
          replace hF := bnd_p hF
          refine lv_iinc (v := y2 + (-1)) (lv' := [(2, .int (y2 + (-1))), (1, .int y1), (0, .ref q)]) hx hb dX2_removeRowsOf_26 hl (k := 1) rfl rfl (by decide) rfl (fun ls hl => ?_)
          refine lv_goto (tgt := 7) hx hb dX2_removeRowsOf_29 (by decide) ?_
          exact ih7 y1 (y2 + (-1)) T3 _ _ ls hR hF hP hD hS (lv_sub hl [1, 0, 2] rfl)
  exact loop7 kfu x1 (T.1 - 1) T _ _ ls hR hF hP hD hS (lv_sub hl [2, 0, 1] rfl)

theorem hdX2_mixInto : yX2_mixInto.cls = RX2 ∧ yX2_mixInto.cls ≠ "java/lang/invoke/MethodHandle" ∧ yX2_mixInto.cls ≠ "java/lang/invoke/VarHandle" ∧ (parseMethodDescriptor yX2_mixInto.desc).map (fun d => d.parameters.length) = some 1 := by decide +kernel
def fx2_mixInto_L17 (w rm : Int32) (n : Nat) (T : Tb) (k17 : Int64 → Int64 → Int32 → Int64) : Nat → Int64 → Int64 → Int32 → Int32 → Int64
  | 0, _, _, _, _ => 0
  | n17 + 1, y1, y3, y5, y6 => (if w ≤ y6 then k17 y1 y3 y5 else fx2_mixInto_L17 w rm n T k17 n17 y1 ((31 * y3) + ((fx2_get w rm n T y5 y6).toInt64)) y5 (y6 + 1))
def sx2_mixInto_L17 (w rm : Int32) (n : Nat) (T : Tb) (k17 : Int64 → Int64 → Int32 → Int64) (kg17 : Int64 → Int64 → Int32 → Prop) : Nat → Int64 → Int64 → Int32 → Int32 → Prop
  | 0, _, _, _, _ => False
  | n17 + 1, y1, y3, y5, y6 => (if w ≤ y6 then kg17 y1 y3 y5 else sx2_mixInto_L17 w rm n T k17 kg17 n17 y1 ((31 * y3) + ((fx2_get w rm n T y5 y6).toInt64)) y5 (y6 + 1))
def fx2_mixInto_L5 (w rm : Int32) (n : Nat) (T : Tb) : Nat → Int64 → Int64 → Int32 → Int64
  | 0, _, _, _ => 0
  | n5 + 1, y1, y3, y5 => (if T.1 ≤ y5 then y3 else fx2_mixInto_L17 w rm n T (fun z1 z3 z5 => fx2_mixInto_L5 w rm n T n5 z1 z3 (z5 + 1)) kfu y1 y3 y5 0)
def sx2_mixInto_L5 (w rm : Int32) (n : Nat) (T : Tb) : Nat → Int64 → Int64 → Int32 → Prop
  | 0, _, _, _ => False
  | n5 + 1, y1, y3, y5 => (if T.1 ≤ y5 then True else sx2_mixInto_L17 w rm n T (fun z1 z3 z5 => fx2_mixInto_L5 w rm n T n5 z1 z3 (z5 + 1)) (fun z1 z3 z5 => sx2_mixInto_L5 w rm n T n5 z1 z3 (z5 + 1)) kfu y1 y3 y5 0)
def fx2_mixInto (w rm : Int32) (n : Nat) (T : Tb) (x1 : Int64) : Int64 := fx2_mixInto_L5 w rm n T kfu x1 x1 0
def sx2_mixInto (w rm : Int32) (n : Nat) (T : Tb) (x1 : Int64) : Prop := sx2_mixInto_L5 w rm n T kfu x1 x1 0
set_option maxHeartbeats 4000000 in
set_option maxRecDepth 100000 in
theorem cx2_mixInto {l : Launch} {D : va_G} {cI cB cS cJ : ClassId} {K : State → Prop} (E : kE D cI cB cS cJ K) (q qc : Nat) (w rm : Int32) (n : Nat) (hn : n < 2147483648) (T : Tb) (x1 : Int64) (hF : sx2_mixInto w rm n T x1) : kJ l D K yX2_mixInto wsX2_mixInto 1 23 [.ref q, .long x1] (tbW cI q qc w rm n T) (fx2_mixInto w rm n T x1) (tbW cI q qc w rm n T) := by
  refine kJ_of (own := RX2) (cc := cX2_mixInto) (maxL := 7) (tys := kty cI cB cS cJ) (fun U h => (E.2 U h).1) (by decide) rfl rfl (Nat.le_of_ble_eq_true rfl) ?_
  intro p e s m below meth c A ls hx hb hr hml hts hown hlk hKs hK hP hD hA hS hl
  have hl : lv_has ls 7 [(0, .ref q), (1, .long x1)] := hl
  have hX : CallFix p m c cX2_mixInto 7 s _ wsX2_mixInto RX2 := ⟨hx, hb, hml, hown, hts⟩
  have hinX2 : ∀ w ∈ wsX20, w ∈ wsX2_mixInto := fun w h => List.mem_cons_of_mem _ (List.mem_append_right _ h)
  have q1 := hts (.fieldLink RX2 9 "LabelStation$Table" "rows" "I") (List.mem_of_getElem? (i := 1) rfl)
  have q2 := hts (.fieldLink RX2 21 "LabelStation$Table" "width" "I") (List.mem_of_getElem? (i := 2) rfl)
  have q3 := hts (.constantLong RX2 48 (31)) (List.mem_of_getElem? (i := 3) rfl)
  generalize hR : fx2_mixInto w rm n T x1 = R
  rw [fx2_mixInto] at hR
  rw [sx2_mixInto] at hF
  refine lv_lload_n hx hb dX2_mixInto_0 rfl (lv_at hl 1 rfl) ?_
  refine lv_lstore_n (lv' := [(3, .long x1), (0, .ref q), (1, .long x1)]) hx hb dX2_mixInto_1 rfl hl (by decide) rfl (fun ls hl => ?_)
  refine lv_iconst (v := 0) hx hb dX2_mixInto_2 (by decide) ?_
  refine lv_istore (lv' := [(5, .int 0), (3, .long x1), (0, .ref q), (1, .long x1)]) hx hb dX2_mixInto_3 hl (by decide) rfl (fun ls hl => ?_)
  have loop5 : ∀ (n5 : Nat) (y1 : Int64) (y3 : Int64) (y5 : Int32) (H : Heap) (locs : List Loc) (ls : Array Slot), fx2_mixInto_L5 w rm n T n5 y1 y3 y5 = R → sx2_mixInto_L5 w rm n T n5 y1 y3 y5 → va_P D vwCl (tbW cI q qc w rm n T) H → va_D A (tbW cI q qc w rm n T) → va_S A s.heap H locs → lv_has ls 7 [(1, .long y1), (3, .long y3), (5, .int y5), (0, .ref q)] → W p l e (kRm 1 23) s m ([.ref q, .long x1] : List Value).toArray below meth c H locs 0 0 (kQJ D below R (tbW cI q qc w rm n T) A ([.ref q, .long x1] : List Value).toArray s) (F0 m 5 ls []) := by
    intro n5
    induction n5 with
    | zero => intro y1 y3 y5 H locs ls hR hF; exact hF.elim
    | succ n5 ih5 =>
      intro y1 y3 y5 H locs ls hR hF hP hD hS hl
      rw [fx2_mixInto_L5] at hR
      rw [sx2_mixInto_L5] at hF
      refine lv_iload hx hb dX2_mixInto_5 (lv_at hl 2 rfl) ?_
      refine lv_aload_n hx hb dX2_mixInto_7 rfl (lv_at hl 3 rfl) ?_
      refine va_get (D := D) (ci := 2) (v := .int T.1) (C := RX2) (T := TX2) (N := 4) hx hb hts hinX2 hown hK hP 0 rfl rfl 3 (by decide) q1 (fun _ h9 => h9) rfl dX2_mixInto_8 ?_
      refine lv_icmp_ge (tgt := 54) hx hb dX2_mixInto_11 (by decide) (fun c1 => ?_) (fun c1 => ?_)
      · rw [if_pos c1] at hR hF
        refine lv_lload_n hx hb dX2_mixInto_54 rfl (lv_at hl 1 rfl) ?_
        subst hR
        exact krJ hx hb hr hlk hP hD hS dX2_mixInto_55 rfl rfl
      · rw [if_neg c1] at hR hF
        refine lv_iconst (v := 0) hx hb dX2_mixInto_14 (by decide) ?_
        refine lv_istore (lv' := [(6, .int 0), (1, .long y1), (3, .long y3), (5, .int y5), (0, .ref q)]) hx hb dX2_mixInto_15 hl (by decide) rfl (fun ls hl => ?_)
        have loop17 : ∀ (n17 : Nat) (y1 : Int64) (y3 : Int64) (y5 : Int32) (y6 : Int32) (H : Heap) (locs : List Loc) (ls : Array Slot), fx2_mixInto_L17 w rm n T (fun z1 z3 z5 => fx2_mixInto_L5 w rm n T n5 z1 z3 (z5 + 1)) n17 y1 y3 y5 y6 = R → sx2_mixInto_L17 w rm n T (fun z1 z3 z5 => fx2_mixInto_L5 w rm n T n5 z1 z3 (z5 + 1)) (fun z1 z3 z5 => sx2_mixInto_L5 w rm n T n5 z1 z3 (z5 + 1)) n17 y1 y3 y5 y6 → va_P D vwCl (tbW cI q qc w rm n T) H → va_D A (tbW cI q qc w rm n T) → va_S A s.heap H locs → lv_has ls 7 [(1, .long y1), (3, .long y3), (5, .int y5), (6, .int y6), (0, .ref q)] → W p l e (kRm 1 23) s m ([.ref q, .long x1] : List Value).toArray below meth c H locs 0 0 (kQJ D below R (tbW cI q qc w rm n T) A ([.ref q, .long x1] : List Value).toArray s) (F0 m 17 ls []) := by
          intro n17
          induction n17 with
          | zero => intro y1 y3 y5 y6 H locs ls hR hF; exact hF.elim
          | succ n17 ih17 =>
            intro y1 y3 y5 y6 H locs ls hR hF hP hD hS hl
            rw [fx2_mixInto_L17] at hR
            rw [sx2_mixInto_L17] at hF
            refine lv_iload hx hb dX2_mixInto_17 (lv_at hl 3 rfl) ?_
            refine lv_aload_n hx hb dX2_mixInto_19 rfl (lv_at hl 4 rfl) ?_
            refine va_get (D := D) (ci := 2) (v := .int w) (C := RX2) (T := TX2) (N := 4) hx hb hts hinX2 hown hK hP 0 rfl rfl 0 (by decide) q2 (fun _ h9 => h9) rfl dX2_mixInto_20 ?_
            refine lv_icmp_ge (tgt := 48) hx hb dX2_mixInto_23 (by decide) (fun c2 => ?_) (fun c2 => ?_)
            · rw [if_pos c2] at hR hF
              try dsimp only at hR hF
              refine lv_iinc (v := y5 + 1) (lv' := [(5, .int (y5 + 1)), (1, .long y1), (3, .long y3), (6, .int y6), (0, .ref q)]) hx hb dX2_mixInto_48 hl (k := 2) rfl rfl (by decide) rfl (fun ls hl => ?_)
              refine lv_goto (tgt := 5) hx hb dX2_mixInto_51 (by decide) ?_
              exact ih5 y1 y3 (y5 + 1) _ _ ls hR hF hP hD hS (lv_sub hl [1, 2, 0, 4] rfl)
            · rw [if_neg c2] at hR hF
              refine lv_ldc2 (v := 31) hx hb hown q3 dX2_mixInto_26 ?_
              refine lv_lload_n hx hb dX2_mixInto_29 rfl (lv_at hl 1 rfl) ?_
              refine lv_lmul hx hb dX2_mixInto_30 ?_
              refine lv_aload_n hx hb dX2_mixInto_31 rfl (lv_at hl 4 rfl) ?_
              refine lv_iload hx hb dX2_mixInto_32 (lv_at hl 2 rfl) ?_
              refine lv_iload hx hb dX2_mixInto_34 (lv_at hl 3 rfl) ?_
              refine kcI (ci := 2) (q0 := 0) (As := [.int y5, .int y6]) (rest := [.long (31 * y3)]) E.1 (cx2_get E q qc w rm n hn T y5 y6) hX (cwV 2 hts gX2_mixInto_X2_get rfl rfl rfl hdX2_get ⟨Nat.le_of_ble_eq_true rfl, Nat.le_of_ble_eq_true rfl⟩) hKs hK hP hD hS hA _ _ (kw_self _) (kw_self _).symm rfl rfl rfl rfl hl.1 (Nat.le_of_ble_eq_true rfl) dX2_mixInto_36 ⟨Nat.zero_le _, Nat.zero_le _⟩ (fun H locs hP hD hS => ?_)
              refine lv_i2l hx hb dX2_mixInto_39 rfl ?_
              refine lv_ladd hx hb dX2_mixInto_40 ?_
              refine lv_lstore_n (lv' := [(3, .long ((31 * y3) + ((fx2_get w rm n T y5 y6).toInt64))), (1, .long y1), (5, .int y5), (6, .int y6), (0, .ref q)]) hx hb dX2_mixInto_41 rfl hl (by decide) rfl (fun ls hl => ?_)
              refine lv_iinc (v := y6 + 1) (lv' := [(6, .int (y6 + 1)), (3, .long ((31 * y3) + ((fx2_get w rm n T y5 y6).toInt64))), (1, .long y1), (5, .int y5), (0, .ref q)]) hx hb dX2_mixInto_42 hl (k := 3) rfl rfl (by decide) rfl (fun ls hl => ?_)
              refine lv_goto (tgt := 17) hx hb dX2_mixInto_45 (by decide) ?_
              exact ih17 y1 ((31 * y3) + ((fx2_get w rm n T y5 y6).toInt64)) y5 (y6 + 1) _ _ ls hR hF hP hD hS (lv_sub hl [2, 1, 3, 0, 4] rfl)
        exact loop17 kfu y1 y3 y5 0 _ _ ls hR hF hP hD hS (lv_sub hl [1, 2, 3, 0, 4] rfl)
  exact loop5 kfu x1 x1 0 _ _ ls hR hF hP hD hS (lv_sub hl [3, 1, 0, 2] rfl)

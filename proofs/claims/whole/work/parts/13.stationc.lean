/-! the station: printed by my own program (gen.py) out of the listing -/
theorem hdX3_carryOut : yX3_carryOut.cls = RX3 ∧ yX3_carryOut.cls ≠ "java/lang/invoke/MethodHandle" ∧ yX3_carryOut.cls ≠ "java/lang/invoke/VarHandle" ∧ (parseMethodDescriptor yX3_carryOut.desc).map (fun d => d.parameters.length) = some 0 := by decide +kernel
def fx3_carryOut_L51 (k51 : Int32 → Int32 → Int32 → Int32 → (Nat → St) → Int32 × ((Nat → St))) : Nat → Int32 → Int32 → Int32 → Int32 → Int32 → (Nat → St) → Int32 × ((Nat → St))
  | 0, _, _, _, _, _, L => (0, L)
  | n51 + 1, y1, y2, y3, y4, y5, L => (if y4 ≤ y5 then k51 y1 y2 y3 y4 L else (bnd (va_up L 0 (fx1_passTick (L 0))) (fun L52018 => fx3_carryOut_L51 k51 n51 y1 y2 y3 y4 (y5 + 1) L52018)))
def sx3_carryOut_L51 (k51 : Int32 → Int32 → Int32 → Int32 → (Nat → St) → Int32 × ((Nat → St))) (kg51 : Int32 → Int32 → Int32 → Int32 → (Nat → St) → Prop) : Nat → Int32 → Int32 → Int32 → Int32 → Int32 → (Nat → St) → Prop
  | 0, _, _, _, _, _, _ => False
  | n51 + 1, y1, y2, y3, y4, y5, L => (if y4 ≤ y5 then kg51 y1 y2 y3 y4 L else (sx1_passTick (L 0) ∧ (bnd (va_up L 0 (fx1_passTick (L 0))) (fun L52018 => sx3_carryOut_L51 k51 kg51 n51 y1 y2 y3 y4 (y5 + 1) L52018))))
def fx3_carryOut_L28 : Nat → Int32 → Int32 → (Nat → St) → Int32 × ((Nat → St))
  | 0, _, _, L => (0, L)
  | n28 + 1, y1, y2, L => (if ((L 7) 1 2) ≤ y2 then (bnd ((hput L (fx0_keepPrepared ((L 7) 1 0, (L 7) 1 1)))) (fun L29002 => ((L29002 7) 1 2, L29002))) else (bnd (fx3_byteAt L y2) (fun v29003 => fx3_carryOut_L51 (fun z1 z2 z3 z4 Lz => (if z4 = 0 then (bnd (fx1_hasRoom (Lz 0)) (fun v52003 => (if v52003 = 0 then (bnd (fxh_bringBackPrepared Lz) (fun L52005 => ((-1000) - z2, L52005))) else (bnd (fx1_enter (Lz 0) (z3 - 48)) (fun u52007 => fx3_carryOut_L28 n28 z1 (z2 + 1) (va_up Lz 0 u52007.2)))))) else fx3_carryOut_L28 n28 z1 (z2 + 1) Lz)) kfu y1 y2 v29003 (fx3_ticksOf v29003) 0 L)))
def sx3_carryOut_L28 : Nat → Int32 → Int32 → (Nat → St) → Prop
  | 0, _, _, _ => False
  | n28 + 1, y1, y2, L => (if ((L 7) 1 2) ≤ y2 then True else (bnd (fx3_byteAt L y2) (fun v29003 => sx3_carryOut_L51 (fun z1 z2 z3 z4 Lz => (if z4 = 0 then (bnd (fx1_hasRoom (Lz 0)) (fun v52003 => (if v52003 = 0 then (bnd (fxh_bringBackPrepared Lz) (fun L52005 => ((-1000) - z2, L52005))) else (bnd (fx1_enter (Lz 0) (z3 - 48)) (fun u52007 => fx3_carryOut_L28 n28 z1 (z2 + 1) (va_up Lz 0 u52007.2)))))) else fx3_carryOut_L28 n28 z1 (z2 + 1) Lz)) (fun z1 z2 z3 z4 Lz => (if z4 = 0 then (sx1_hasRoom (Lz 0) ∧ (bnd (fx1_hasRoom (Lz 0)) (fun v52003 => (if v52003 = 0 then sxh_bringBackPrepared Lz else (sx1_enter (Lz 0) (z3 - 48) ∧ (bnd (fx1_enter (Lz 0) (z3 - 48)) (fun u52007 => sx3_carryOut_L28 n28 z1 (z2 + 1) (va_up Lz 0 u52007.2)))))))) else sx3_carryOut_L28 n28 z1 (z2 + 1) Lz)) kfu y1 y2 v29003 (fx3_ticksOf v29003) 0 L)))
def fx3_carryOut (L : (Nat → St)) : Int32 × ((Nat → St)) := (bnd (fx3_syntaxError L) (fun v1 => (if v1 = (-1) then (bnd (fxh_prepare L) (fun L3 => fx3_carryOut_L28 kfu v1 0 L3)) else ((-10) - v1, L))))
def sx3_carryOut (L : (Nat → St)) : Prop := (sx3_syntaxError L ∧ (bnd (fx3_syntaxError L) (fun v1 => (if v1 = (-1) then (sxh_prepare L ∧ (bnd (fxh_prepare L) (fun L3 => sx3_carryOut_L28 kfu v1 0 L3))) else True))))
set_option maxHeartbeats 4000000 in
set_option maxRecDepth 100000 in
theorem cx3_carryOut {l : Launch} {D : va_G} {cI cB cS cJ : ClassId} {K : State → Prop} (EX : kEX D cI cB cS cJ K) (aL : Nat → Nat → Nat) (L : (Nat → St)) (hF : sx3_carryOut L) : kI l D K yX3_carryOut wsX3_carryOut 6 144 [.ref (aL 7 0)] (lsW cI cB cS aL L) (fx3_carryOut L).1 (lsW cI cB cS aL ((fx3_carryOut L).2)) := by
  have E := EX.1
  refine kI_of (own := RX3) (cc := cX3_carryOut) (maxL := 6) (tys := kty cI cB cS cJ) (fun U h => (E.2 U h).1) (by decide) rfl rfl (Nat.le_of_ble_eq_true rfl) ?_
  intro p e s m below meth c A ls hx hb hr hml hts hown hlk hKs hK hP hD hA hS hl
  have hl : lv_has ls 6 [(0, .ref (aL 7 0))] := hl
  have hX : CallFix p m c cX3_carryOut 6 s _ wsX3_carryOut RX3 := ⟨hx, hb, hml, hown, hts⟩
  have hinX3 : ∀ w ∈ wsX30, w ∈ wsX3_carryOut := fun w h => List.mem_cons_of_mem _ (List.mem_append_left _ (List.mem_append_left _ (List.mem_append_left _ (List.mem_append_right _ h))))
  have q1 := hts (.fieldLink RX3 22 "LabelStation" "history" "LLabelStation$History;") (List.mem_of_getElem? (i := 1) rfl)
  have q2 := hts (.fieldLink RX3 10 "LabelStation" "state" "LLabelStation$State;") (List.mem_of_getElem? (i := 2) rfl)
  have q3 := hts (.fieldLink RX3 30 "LabelStation" "textLength" "I") (List.mem_of_getElem? (i := 3) rfl)
  generalize hR : fx3_carryOut L = R
  rw [fx3_carryOut] at hR
  rw [sx3_carryOut] at hF
  refine lv_aload_n hx hb dX3_carryOut_0 rfl (lv_at hl 0 rfl) ?_
  obtain ⟨hs5, hF⟩ := hF
  refine kcI (ci := 3) (q0 := 0) (As := []) (rest := []) E.1 (cx3_syntaxError EX aL L hs5) hX (cwV 0 hts gX3_carryOut_X3_syntaxError rfl rfl rfl hdX3_syntaxError ⟨Nat.le_of_ble_eq_true rfl, Nat.le_of_ble_eq_true rfl⟩) hKs hK hP hD hS hA _ _ (kw_self _) (kw_self _).symm rfl rfl rfl rfl hl.1 (Nat.le_of_ble_eq_true rfl) dX3_carryOut_1 ⟨Nat.zero_le _, Nat.zero_le _⟩ (fun H locs hP hD hS => ?_)
  generalize ev1 : fx3_syntaxError L = v1 at hR hF ⊢
  replace hR := bnd_e hR
  replace hF := bnd_p hF
  refine lv_istore_n (lv' := [(1, .int v1), (0, .ref (aL 7 0))]) hx hb dX3_carryOut_4 rfl hl (by decide) rfl (fun ls hl => ?_)
  refine lv_iload_n hx hb dX3_carryOut_5 rfl (lv_at hl 0 rfl) ?_
  refine lv_iconst (v := (-1)) hx hb dX3_carryOut_6 (by decide) ?_
  refine lv_icmp_eq (tgt := 15) hx hb dX3_carryOut_7 (by decide) (fun c2 => ?_) (fun c2 => ?_)
  · rw [if_pos c2] at hR hF
    refine lv_aload_n hx hb dX3_carryOut_15 rfl (lv_at hl 1 rfl) ?_
    refine va_get (D := D) (ci := 3) (v := .ref (aL 7 1)) (C := RX3) (T := TX3) (N := 5) hx hb hts hinX3 hown hK hP 0 rfl rfl 2 (by decide) q1 (fun _ h9 => h9) rfl dX3_carryOut_16 ?_
    refine lv_aload_n hx hb dX3_carryOut_19 rfl (lv_at hl 1 rfl) ?_
    refine va_get (D := D) (ci := 3) (v := .ref (aL 0 0)) (C := RX3) (T := TX3) (N := 5) hx hb hts hinX3 hown hK hP 0 rfl rfl 0 (by decide) q2 (fun _ h9 => h9) rfl dX3_carryOut_20 ?_
    obtain ⟨hs4, hF⟩ := hF
    refine kcV (ci := 0) (q0 := 14) (As := [.ref (aL 0 0)]) (rest := []) E.1 (cx0_prepare E aL L (hjn L) (hix_lt hs4.1) (hix_at hs4.1) hs4.2) hX (cwV 1 hts gX3_carryOut_X0_prepare rfl rfl rfl hdX0_prepare ⟨Nat.le_of_ble_eq_true rfl, Nat.le_of_ble_eq_true rfl⟩) hKs hK hP hD hS hA _ _ (ls_hs cI cB cS aL L) (lsh_prepare cI cB cS aL L hs4.1) rfl rfl rfl rfl hl.1 (Nat.le_of_ble_eq_true rfl) dX3_carryOut_23 ⟨Nat.zero_le _, Nat.zero_le _⟩ (fun H locs hP hD hS => ?_)
    have hP : va_P D vwCl (lsW cI cB cS aL (fxh_prepare L)) H := hP
    have hD : va_D A (lsW cI cB cS aL (fxh_prepare L)) := hD
    obtain ⟨L3, hR, hF, hP, hD⟩ := kgenF (P := fun X9 => va_P D vwCl (lsW cI cB cS aL X9) H ∧ va_D A (lsW cI cB cS aL X9)) hR hF ⟨hP, hD⟩
    refine lv_iconst (v := 0) hx hb dX3_carryOut_26 (by decide) ?_
    refine lv_istore_n (lv' := [(2, .int 0), (1, .int v1), (0, .ref (aL 7 0))]) hx hb dX3_carryOut_27 rfl hl (by decide) rfl (fun ls hl => ?_)
    have loop28 : ∀ (n28 : Nat) (y1 : Int32) (y2 : Int32) (L : (Nat → St)) (H : Heap) (locs : List Loc) (ls : Array Slot), fx3_carryOut_L28 n28 y1 y2 L = R → sx3_carryOut_L28 n28 y1 y2 L → va_P D vwCl (lsW cI cB cS aL L) H → va_D A (lsW cI cB cS aL L) → va_S A s.heap H locs → lv_has ls 6 [(1, .int y1), (2, .int y2), (0, .ref (aL 7 0))] → W p l e (kRm 6 144) s m ([.ref (aL 7 0)] : List Value).toArray below meth c H locs 0 0 (kQI D below R.1 (lsW cI cB cS aL R.2) A ([.ref (aL 7 0)] : List Value).toArray s) (F0 m 28 ls []) := by
      intro n28
      induction n28 with
      | zero => intro y1 y2 L H locs ls hR hF; exact hF.elim
      | succ n28 ih28 =>
        intro y1 y2 L H locs ls hR hF hP hD hS hl
        rw [fx3_carryOut_L28] at hR
        rw [sx3_carryOut_L28] at hF
        refine lv_iload_n hx hb dX3_carryOut_28 rfl (lv_at hl 1 rfl) ?_
        refine lv_aload_n hx hb dX3_carryOut_29 rfl (lv_at hl 2 rfl) ?_
        refine va_get (D := D) (ci := 3) (v := .int ((L 7) 1 2)) (C := RX3) (T := TX3) (N := 5) hx hb hts hinX3 hown hK hP 0 rfl rfl 4 (by decide) q3 (fun _ h9 => h9) rfl dX3_carryOut_30 ?_
        refine lv_icmp_ge (tgt := 121) hx hb dX3_carryOut_33 (by decide) (fun c29001 => ?_) (fun c29001 => ?_)
        · rw [if_pos c29001] at hR hF
          refine lv_aload_n hx hb dX3_carryOut_121 rfl (lv_at hl 2 rfl) ?_
          refine va_get (D := D) (ci := 3) (v := .ref (aL 7 1)) (C := RX3) (T := TX3) (N := 5) hx hb hts hinX3 hown hK hP 0 rfl rfl 2 (by decide) q1 (fun _ h9 => h9) rfl dX3_carryOut_122 ?_
          refine kcV (ci := 0) (q0 := 0) (As := []) (rest := []) E.1 (cx0_keepPrepared E aL ((L 7) 1 0, (L 7) 1 1)) hX (cwV 0 hts gX3_carryOut_X0_keepPrepared rfl rfl rfl hdX0_keepPrepared ⟨Nat.le_of_ble_eq_true rfl, Nat.le_of_ble_eq_true rfl⟩) hKs hK hP hD hS hA _ _ (ls_hj cI cB cS aL L) (ls_hj' cI cB cS aL L _) rfl rfl rfl rfl hl.1 (Nat.le_of_ble_eq_true rfl) dX3_carryOut_125 ⟨Nat.zero_le _, Nat.zero_le _⟩ (fun H locs hP hD hS => ?_)
          have hP : va_P D vwCl (lsW cI cB cS aL (hput L (fx0_keepPrepared ((L 7) 1 0, (L 7) 1 1)))) H := hP
          have hD : va_D A (lsW cI cB cS aL (hput L (fx0_keepPrepared ((L 7) 1 0, (L 7) 1 1)))) := hD
          obtain ⟨L29002, hR, hP, hD⟩ := kgen (P := fun X9 => va_P D vwCl (lsW cI cB cS aL X9) H ∧ va_D A (lsW cI cB cS aL X9)) hR ⟨hP, hD⟩
          refine lv_aload_n hx hb dX3_carryOut_128 rfl (lv_at hl 2 rfl) ?_
          refine va_get (D := D) (ci := 3) (v := .int ((L29002 7) 1 2)) (C := RX3) (T := TX3) (N := 5) hx hb hts hinX3 hown hK hP 0 rfl rfl 4 (by decide) q3 (fun _ h9 => h9) rfl dX3_carryOut_129 ?_
          subst hR
          exact krI hx hb hr hlk hP hD hS dX3_carryOut_132 rfl rfl
        · rw [if_neg c29001] at hR hF
          refine lv_aload_n hx hb dX3_carryOut_36 rfl (lv_at hl 2 rfl) ?_
          refine lv_iload_n hx hb dX3_carryOut_37 rfl (lv_at hl 1 rfl) ?_
          refine kcI (ci := 3) (q0 := 0) (As := [.int y2]) (rest := []) E.1 (cx3_byteAt EX aL L y2) hX (cwV 1 hts gX3_carryOut_X3_byteAt rfl rfl rfl hdX3_byteAt ⟨Nat.le_of_ble_eq_true rfl, Nat.le_of_ble_eq_true rfl⟩) hKs hK hP hD hS hA _ _ (kw_self _) (kw_self _).symm rfl rfl rfl rfl hl.1 (Nat.le_of_ble_eq_true rfl) dX3_carryOut_38 ⟨Nat.zero_le _, Nat.zero_le _⟩ (fun H locs hP hD hS => ?_)
          generalize ev29003 : fx3_byteAt L y2 = v29003 at hR hF ⊢
          replace hR := bnd_e hR
          replace hF := bnd_p hF
          refine lv_istore_n (lv' := [(3, .int v29003), (1, .int y1), (2, .int y2), (0, .ref (aL 7 0))]) hx hb dX3_carryOut_41 rfl hl (by decide) rfl (fun ls hl => ?_)
          refine lv_iload_n hx hb dX3_carryOut_42 rfl (lv_at hl 0 rfl) ?_
          refine kcsI (As := [.int v29003]) (rest := []) E.1 (cx3_ticksOf E v29003) hX (va_cwS 1 hts gX3_carryOut_X3_ticksOf rfl rfl rfl hdX3_ticksOf.2 ⟨Nat.le_of_ble_eq_true rfl, Nat.le_of_ble_eq_true rfl⟩) hKs hP hD hS hA _ _ (kw_nil _) (kw_nil _).symm rfl rfl hl.1 (Nat.le_of_ble_eq_true rfl) dX3_carryOut_43 ⟨Nat.zero_le _, Nat.zero_le _⟩ (fun H locs hP hD hS => ?_)
          refine lv_istore (lv' := [(4, .int (fx3_ticksOf v29003)), (3, .int v29003), (1, .int y1), (2, .int y2), (0, .ref (aL 7 0))]) hx hb dX3_carryOut_46 hl (by decide) rfl (fun ls hl => ?_)
          refine lv_iconst (v := 0) hx hb dX3_carryOut_48 (by decide) ?_
          refine lv_istore (lv' := [(5, .int 0), (4, .int (fx3_ticksOf v29003)), (3, .int v29003), (1, .int y1), (2, .int y2), (0, .ref (aL 7 0))]) hx hb dX3_carryOut_49 hl (by decide) rfl (fun ls hl => ?_)
          have loop51 : ∀ (n51 : Nat) (y1 : Int32) (y2 : Int32) (y3 : Int32) (y4 : Int32) (y5 : Int32) (L : (Nat → St)) (H : Heap) (locs : List Loc) (ls : Array Slot), fx3_carryOut_L51 (fun z1 z2 z3 z4 Lz => (if z4 = 0 then (bnd (fx1_hasRoom (Lz 0)) (fun v52003 => (if v52003 = 0 then (bnd (fxh_bringBackPrepared Lz) (fun L52005 => ((-1000) - z2, L52005))) else (bnd (fx1_enter (Lz 0) (z3 - 48)) (fun u52007 => fx3_carryOut_L28 n28 z1 (z2 + 1) (va_up Lz 0 u52007.2)))))) else fx3_carryOut_L28 n28 z1 (z2 + 1) Lz)) n51 y1 y2 y3 y4 y5 L = R → sx3_carryOut_L51 (fun z1 z2 z3 z4 Lz => (if z4 = 0 then (bnd (fx1_hasRoom (Lz 0)) (fun v52003 => (if v52003 = 0 then (bnd (fxh_bringBackPrepared Lz) (fun L52005 => ((-1000) - z2, L52005))) else (bnd (fx1_enter (Lz 0) (z3 - 48)) (fun u52007 => fx3_carryOut_L28 n28 z1 (z2 + 1) (va_up Lz 0 u52007.2)))))) else fx3_carryOut_L28 n28 z1 (z2 + 1) Lz)) (fun z1 z2 z3 z4 Lz => (if z4 = 0 then (sx1_hasRoom (Lz 0) ∧ (bnd (fx1_hasRoom (Lz 0)) (fun v52003 => (if v52003 = 0 then sxh_bringBackPrepared Lz else (sx1_enter (Lz 0) (z3 - 48) ∧ (bnd (fx1_enter (Lz 0) (z3 - 48)) (fun u52007 => sx3_carryOut_L28 n28 z1 (z2 + 1) (va_up Lz 0 u52007.2)))))))) else sx3_carryOut_L28 n28 z1 (z2 + 1) Lz)) n51 y1 y2 y3 y4 y5 L → va_P D vwCl (lsW cI cB cS aL L) H → va_D A (lsW cI cB cS aL L) → va_S A s.heap H locs → lv_has ls 6 [(1, .int y1), (2, .int y2), (3, .int y3), (4, .int y4), (5, .int y5), (0, .ref (aL 7 0))] → W p l e (kRm 6 144) s m ([.ref (aL 7 0)] : List Value).toArray below meth c H locs 0 0 (kQI D below R.1 (lsW cI cB cS aL R.2) A ([.ref (aL 7 0)] : List Value).toArray s) (F0 m 51 ls []) := by
            intro n51
            induction n51 with
            | zero => intro y1 y2 y3 y4 y5 L H locs ls hR hF; exact hF.elim
            | succ n51 ih51 =>
              intro y1 y2 y3 y4 y5 L H locs ls hR hF hP hD hS hl
              rw [fx3_carryOut_L51] at hR
              rw [sx3_carryOut_L51] at hF
              refine lv_iload hx hb dX3_carryOut_51 (lv_at hl 4 rfl) ?_
              refine lv_iload hx hb dX3_carryOut_53 (lv_at hl 3 rfl) ?_
              refine lv_icmp_ge (tgt := 71) hx hb dX3_carryOut_55 (by decide) (fun c52001 => ?_) (fun c52001 => ?_)
              · rw [if_pos c52001] at hR hF
                try dsimp only at hR hF
                refine lv_iload hx hb dX3_carryOut_71 (lv_at hl 3 rfl) ?_
                refine lv_if_ne (tgt := 115) hx hb dX3_carryOut_73 (by decide) (fun c52010 => ?_) (fun c52010 => ?_)
                · rw [if_neg c52010] at hR hF
                  refine lv_iinc (v := y2 + 1) (lv' := [(2, .int (y2 + 1)), (1, .int y1), (3, .int y3), (4, .int y4), (5, .int y5), (0, .ref (aL 7 0))]) hx hb dX3_carryOut_115 hl (k := 1) rfl rfl (by decide) rfl (fun ls hl => ?_)
                  refine lv_goto (tgt := 28) hx hb dX3_carryOut_118 (by decide) ?_
                  exact ih28 y1 (y2 + 1) L _ _ ls hR hF hP hD hS (lv_sub hl [1, 0, 5] rfl)
                · rw [if_pos c52010] at hR hF
                  refine lv_aload_n hx hb dX3_carryOut_76 rfl (lv_at hl 5 rfl) ?_
                  refine va_get (D := D) (ci := 3) (v := .ref (aL 0 0)) (C := RX3) (T := TX3) (N := 5) hx hb hts hinX3 hown hK hP 0 rfl rfl 0 (by decide) q2 (fun _ h9 => h9) rfl dX3_carryOut_77 ?_
                  obtain ⟨hs52017, hF⟩ := hF
                  refine kcI (ci := 1) (q0 := 0) (As := []) (rest := []) E.1 (cx1_hasRoom E (aL 0) (L 0) hs52017) hX (cwV 0 hts gX3_carryOut_X1_hasRoom rfl rfl rfl hdX1_hasRoom ⟨Nat.le_of_ble_eq_true rfl, Nat.le_of_ble_eq_true rfl⟩) hKs hK hP hD hS hA _ _ (ls_st0 cI cB cS aL L) (ls_st0 cI cB cS aL L).symm rfl rfl rfl rfl hl.1 (Nat.le_of_ble_eq_true rfl) dX3_carryOut_80 ⟨Nat.zero_le _, Nat.zero_le _⟩ (fun H locs hP hD hS => ?_)
                  generalize ev52011 : fx1_hasRoom (L 0) = v52011 at hR hF ⊢
                  replace hR := bnd_e hR
                  replace hF := bnd_p hF
                  refine lv_if_ne (tgt := 103) hx hb dX3_carryOut_83 (by decide) (fun c52012 => ?_) (fun c52012 => ?_)
                  · rw [if_neg c52012] at hR hF
                    refine lv_aload_n hx hb dX3_carryOut_103 rfl (lv_at hl 5 rfl) ?_
                    refine va_get (D := D) (ci := 3) (v := .ref (aL 0 0)) (C := RX3) (T := TX3) (N := 5) hx hb hts hinX3 hown hK hP 0 rfl rfl 0 (by decide) q2 (fun _ h9 => h9) rfl dX3_carryOut_104 ?_
                    refine lv_iload_n hx hb dX3_carryOut_107 rfl (lv_at hl 2 rfl) ?_
                    refine lv_bipush (v := 48) hx hb dX3_carryOut_108 (by decide) ?_
                    refine lv_isub hx hb dX3_carryOut_110 ?_
                    obtain ⟨hs52016, hF⟩ := hF
                    refine kcI (ci := 1) (q0 := 0) (As := [.int (y3 - 48)]) (rest := []) E.1 (cx1_enter E (aL 0) (L 0) (y3 - 48) hs52016) hX (cwV 1 hts gX3_carryOut_X1_enter rfl rfl rfl hdX1_enter ⟨Nat.le_of_ble_eq_true rfl, Nat.le_of_ble_eq_true rfl⟩) hKs hK hP hD hS hA _ _ (ls_st0 cI cB cS aL L) (ls_st0' cI cB cS aL L _) rfl rfl rfl rfl hl.1 (Nat.le_of_ble_eq_true rfl) dX3_carryOut_111 ⟨Nat.zero_le _, Nat.zero_le _⟩ (fun H locs hP hD hS => ?_)
                    have hP : va_P D vwCl (lsW cI cB cS aL (va_up L 0 ((fx1_enter (L 0) (y3 - 48)).2))) H := hP
                    have hD : va_D A (lsW cI cB cS aL (va_up L 0 ((fx1_enter (L 0) (y3 - 48)).2))) := hD
                    generalize eu52015 : fx1_enter (L 0) (y3 - 48) = u52015 at hR hF hP hD ⊢
                    replace hR := bnd_e hR
                    replace hF := bnd_p hF
                    refine lv_pop hx hb dX3_carryOut_114 rfl ?_
                    refine lv_iinc (v := y2 + 1) (lv' := [(2, .int (y2 + 1)), (1, .int y1), (3, .int y3), (4, .int y4), (5, .int y5), (0, .ref (aL 7 0))]) hx hb dX3_carryOut_115 hl (k := 1) rfl rfl (by decide) rfl (fun ls hl => ?_)
                    refine lv_goto (tgt := 28) hx hb dX3_carryOut_118 (by decide) ?_
                    exact ih28 y1 (y2 + 1) (va_up L 0 u52015.2) _ _ ls hR hF hP hD hS (lv_sub hl [1, 0, 5] rfl)
                  · rw [if_pos c52012] at hR hF
                    refine lv_aload_n hx hb dX3_carryOut_86 rfl (lv_at hl 5 rfl) ?_
                    refine va_get (D := D) (ci := 3) (v := .ref (aL 7 1)) (C := RX3) (T := TX3) (N := 5) hx hb hts hinX3 hown hK hP 0 rfl rfl 2 (by decide) q1 (fun _ h9 => h9) rfl dX3_carryOut_87 ?_
                    refine lv_aload_n hx hb dX3_carryOut_90 rfl (lv_at hl 5 rfl) ?_
                    refine va_get (D := D) (ci := 3) (v := .ref (aL 0 0)) (C := RX3) (T := TX3) (N := 5) hx hb hts hinX3 hown hK hP 0 rfl rfl 0 (by decide) q2 (fun _ h9 => h9) rfl dX3_carryOut_91 ?_
                    have hs52014 := hF
                    refine kcV (ci := 0) (q0 := 14) (As := [.ref (aL 0 0)]) (rest := []) E.1 (cx0_bringBackPrepared E aL L (hjn L) (hix_lt hs52014.1) (hix_at hs52014.1) hs52014.2) hX (cwV 1 hts gX3_carryOut_X0_bringBackPrepared rfl rfl rfl hdX0_bringBackPrepared ⟨Nat.le_of_ble_eq_true rfl, Nat.le_of_ble_eq_true rfl⟩) hKs hK hP hD hS hA _ _ (ls_hs cI cB cS aL L) (lsh_bringBackPrepared cI cB cS aL L) rfl rfl rfl rfl hl.1 (Nat.le_of_ble_eq_true rfl) dX3_carryOut_94 ⟨Nat.zero_le _, Nat.zero_le _⟩ (fun H locs hP hD hS => ?_)
                    have hP : va_P D vwCl (lsW cI cB cS aL (fxh_bringBackPrepared L)) H := hP
                    have hD : va_D A (lsW cI cB cS aL (fxh_bringBackPrepared L)) := hD
                    obtain ⟨L52013, hR, hP, hD⟩ := kgen (P := fun X9 => va_P D vwCl (lsW cI cB cS aL X9) H ∧ va_D A (lsW cI cB cS aL X9)) hR ⟨hP, hD⟩
                    refine lv_sipush (v := (-1000)) hx hb dX3_carryOut_97 (by decide) ?_
                    refine lv_iload_n hx hb dX3_carryOut_100 rfl (lv_at hl 1 rfl) ?_
                    refine lv_isub hx hb dX3_carryOut_101 ?_
                    subst hR
                    exact krI hx hb hr hlk hP hD hS dX3_carryOut_102 rfl rfl
              · rw [if_neg c52001] at hR hF
                refine lv_aload_n hx hb dX3_carryOut_58 rfl (lv_at hl 5 rfl) ?_
                refine va_get (D := D) (ci := 3) (v := .ref (aL 0 0)) (C := RX3) (T := TX3) (N := 5) hx hb hts hinX3 hown hK hP 0 rfl rfl 0 (by decide) q2 (fun _ h9 => h9) rfl dX3_carryOut_59 ?_
                obtain ⟨hs52019, hF⟩ := hF
                refine kcV (ci := 1) (q0 := 0) (As := []) (rest := []) E.1 (cx1_passTick E (aL 0) (L 0) hs52019) hX (cwV 0 hts gX3_carryOut_X1_passTick rfl rfl rfl hdX1_passTick ⟨Nat.le_of_ble_eq_true rfl, Nat.le_of_ble_eq_true rfl⟩) hKs hK hP hD hS hA _ _ (ls_st0 cI cB cS aL L) (ls_st0' cI cB cS aL L _) rfl rfl rfl rfl hl.1 (Nat.le_of_ble_eq_true rfl) dX3_carryOut_62 ⟨Nat.zero_le _, Nat.zero_le _⟩ (fun H locs hP hD hS => ?_)
                have hP : va_P D vwCl (lsW cI cB cS aL (va_up L 0 (fx1_passTick (L 0)))) H := hP
                have hD : va_D A (lsW cI cB cS aL (va_up L 0 (fx1_passTick (L 0)))) := hD
                obtain ⟨L52018, hR, hF, hP, hD⟩ := kgenF (P := fun X9 => va_P D vwCl (lsW cI cB cS aL X9) H ∧ va_D A (lsW cI cB cS aL X9)) hR hF ⟨hP, hD⟩
                refine lv_iinc (v := y5 + 1) (lv' := [(5, .int (y5 + 1)), (1, .int y1), (2, .int y2), (3, .int y3), (4, .int y4), (0, .ref (aL 7 0))]) hx hb dX3_carryOut_65 hl (k := 4) rfl rfl (by decide) rfl (fun ls hl => ?_)
                refine lv_goto (tgt := 51) hx hb dX3_carryOut_68 (by decide) ?_
                exact ih51 y1 y2 y3 y4 (y5 + 1) L52018 _ _ ls hR hF hP hD hS (lv_sub hl [1, 2, 3, 4, 0, 5] rfl)
          exact loop51 kfu y1 y2 v29003 (fx3_ticksOf v29003) 0 L _ _ ls hR hF hP hD hS (lv_sub hl [3, 4, 2, 1, 0, 5] rfl)
    exact loop28 kfu v1 0 L3 _ _ ls hR hF hP hD hS (lv_sub hl [1, 0, 2] rfl)
  · rw [if_neg c2] at hR hF
    refine lv_bipush (v := (-10)) hx hb dX3_carryOut_10 (by decide) ?_
    refine lv_iload_n hx hb dX3_carryOut_12 rfl (lv_at hl 0 rfl) ?_
    refine lv_isub hx hb dX3_carryOut_13 ?_
    subst hR
    exact krI hx hb hr hlk hP hD hS dX3_carryOut_14 rfl rfl

theorem hdX3_undo : yX3_undo.cls = RX3 ∧ yX3_undo.cls ≠ "java/lang/invoke/MethodHandle" ∧ yX3_undo.cls ≠ "java/lang/invoke/VarHandle" ∧ (parseMethodDescriptor yX3_undo.desc).map (fun d => d.parameters.length) = some 0 := by decide +kernel
def fx3_undo (L : (Nat → St)) : Int32 × Int32 × ((Nat → St)) := (if (fx0_count ((L 7) 1 0, (L 7) 1 1)) = 0 then (2, 0, L) else (bnd (fxh_bringBackLatest L) (fun L2 => (0, fx0_count ((L2 7) 1 0, (L2 7) 1 1), L2))))
def sx3_undo (L : (Nat → St)) : Prop := (if (fx0_count ((L 7) 1 0, (L 7) 1 1)) = 0 then True else sxh_bringBackLatest L)
set_option maxHeartbeats 4000000 in
set_option maxRecDepth 100000 in
theorem cx3_undo {l : Launch} {D : va_G} {cI cB cS cJ : ClassId} {K : State → Prop} (EX : kEX D cI cB cS cJ K) (hfl : l.stackTraces = false) (aL : Nat → Nat → Nat) (L : (Nat → St)) (hF : sx3_undo L) : kX l D K yX3_undo wsX3_undo 6 165 [.ref (aL 7 0)] (lsW cI cB cS aL L) ((fx3_undo L).1) ((fx3_undo L).2.1) (lsW cI cB cS aL ((fx3_undo L).2.2)) := by
  have E := EX.1
  refine kX_of (own := RX3) (cc := cX3_undo) (maxL := 1) (tys := kty cI cB cS cJ) (fun U h => (E.2 U h).1) (by decide) rfl rfl (Nat.le_of_ble_eq_true rfl) ?_
  intro p e s m below meth c A ls hx hb hr hml hts hown hlk hKs hK hP hD hA hS hl hSt htab
  have hl : lv_has ls 1 [(0, .ref (aL 7 0))] := hl
  have hX : CallFix p m c cX3_undo 1 s _ wsX3_undo RX3 := ⟨hx, hb, hml, hown, hts⟩
  have hinX3 : ∀ w ∈ wsX30, w ∈ wsX3_undo := fun w h => List.mem_cons_of_mem _ (List.mem_append_left _ (List.mem_append_left _ (List.mem_append_left _ (List.mem_append_left _ (List.mem_append_right _ h)))))
  have q1 := hts (.classLink RX3 54 "java/lang/IllegalStateException") (List.mem_of_getElem? (i := 1) rfl)
  have q2 := hts (.initialized "java/lang/IllegalStateException") (List.mem_of_getElem? (i := 2) rfl)
  have q3 := hts (.fieldLink RX3 22 "LabelStation" "history" "LLabelStation$History;") (List.mem_of_getElem? (i := 3) rfl)
  have q4 := hts (.fieldLink RX3 10 "LabelStation" "state" "LLabelStation$State;") (List.mem_of_getElem? (i := 4) rfl)
  generalize hR : fx3_undo L = R
  rw [fx3_undo] at hR
  rw [sx3_undo] at hF
  refine lv_aload_n hx hb dX3_undo_0 rfl (lv_at hl 0 rfl) ?_
  refine va_get (D := D) (ci := 3) (v := .ref (aL 7 1)) (C := RX3) (T := TX3) (N := 5) hx hb hts hinX3 hown hK hP 0 rfl rfl 2 (by decide) q3 (fun _ h9 => h9) rfl dX3_undo_1 ?_
  refine kcI (ci := 0) (q0 := 0) (As := []) (rest := []) E.1 (cx0_count E aL ((L 7) 1 0, (L 7) 1 1)) hX (cwV 0 hts gX3_undo_X0_count rfl rfl rfl hdX0_count ⟨Nat.le_of_ble_eq_true rfl, Nat.le_of_ble_eq_true rfl⟩) hKs hK hP hD hS hA _ _ (ls_hj cI cB cS aL L) (ls_hj cI cB cS aL L).symm rfl rfl rfl rfl hl.1 (Nat.le_of_ble_eq_true rfl) dX3_undo_4 ⟨Nat.zero_le _, Nat.zero_le _⟩ (fun H locs hP hD hS => ?_)
  refine lv_if_ne (tgt := 20) hx hb dX3_undo_7 (by decide) (fun c1 => ?_) (fun c1 => ?_)
  · rw [if_neg c1] at hR hF
    refine lv_aload_n hx hb dX3_undo_20 rfl (lv_at hl 0 rfl) ?_
    refine va_get (D := D) (ci := 3) (v := .ref (aL 7 1)) (C := RX3) (T := TX3) (N := 5) hx hb hts hinX3 hown hK hP 0 rfl rfl 2 (by decide) q3 (fun _ h9 => h9) rfl dX3_undo_21 ?_
    refine lv_aload_n hx hb dX3_undo_24 rfl (lv_at hl 0 rfl) ?_
    refine va_get (D := D) (ci := 3) (v := .ref (aL 0 0)) (C := RX3) (T := TX3) (N := 5) hx hb hts hinX3 hown hK hP 0 rfl rfl 0 (by decide) q4 (fun _ h9 => h9) rfl dX3_undo_25 ?_
    have hs3 := hF
    refine kcV (ci := 0) (q0 := 14) (As := [.ref (aL 0 0)]) (rest := []) E.1 (cx0_bringBackLatest E aL L (hjn (fx0_less L)) (hix_lt hs3.2.1) hs3.1 (hix_at hs3.2.1) hs3.2.2) hX (cwV 1 hts gX3_undo_X0_bringBackLatest rfl rfl rfl hdX0_bringBackLatest ⟨Nat.le_of_ble_eq_true rfl, Nat.le_of_ble_eq_true rfl⟩) hKs hK hP hD hS hA _ _ (ls_hs cI cB cS aL L) (lsh_bringBackLatest cI cB cS aL L) rfl rfl rfl rfl hl.1 (Nat.le_of_ble_eq_true rfl) dX3_undo_28 ⟨Nat.zero_le _, Nat.zero_le _⟩ (fun H locs hP hD hS => ?_)
    have hP : va_P D vwCl (lsW cI cB cS aL (fxh_bringBackLatest L)) H := hP
    have hD : va_D A (lsW cI cB cS aL (fxh_bringBackLatest L)) := hD
    obtain ⟨L2, hR, hP, hD⟩ := kgen (P := fun X9 => va_P D vwCl (lsW cI cB cS aL X9) H ∧ va_D A (lsW cI cB cS aL X9)) hR ⟨hP, hD⟩
    refine lv_aload_n hx hb dX3_undo_31 rfl (lv_at hl 0 rfl) ?_
    refine va_get (D := D) (ci := 3) (v := .ref (aL 7 1)) (C := RX3) (T := TX3) (N := 5) hx hb hts hinX3 hown hK hP 0 rfl rfl 2 (by decide) q3 (fun _ h9 => h9) rfl dX3_undo_32 ?_
    refine kcI (ci := 0) (q0 := 0) (As := []) (rest := []) E.1 (cx0_count E aL ((L2 7) 1 0, (L2 7) 1 1)) hX (cwV 0 hts gX3_undo_X0_count rfl rfl rfl hdX0_count ⟨Nat.le_of_ble_eq_true rfl, Nat.le_of_ble_eq_true rfl⟩) hKs hK hP hD hS hA _ _ (ls_hj cI cB cS aL L2) (ls_hj cI cB cS aL L2).symm rfl rfl rfl rfl hl.1 (Nat.le_of_ble_eq_true rfl) dX3_undo_35 ⟨Nat.zero_le _, Nat.zero_le _⟩ (fun H locs hP hD hS => ?_)
    subst hR
    exact krX hx hb hr hlk hP hD hS dX3_undo_38 rfl rfl rfl
  · rw [if_pos c1] at hR hF
    obtain ⟨sa, hsa⟩ := (EX.2 s hKs).1.2.2.2.2.2.2.2.2.2.2.2.2.2.2.2.2.2.2.2.2.2.2
    exact (by subst hR; exact kthrow hx hb hfl hown kXfit2 q1 q2 hsa (vx_hat (fun w h => hts w (List.mem_cons_of_mem _ (List.mem_append_right _ h))) (fun _ h => h) (fun w h => va_Nw.use (kXot2 w h) ((EX.2 s hKs).2.2.1 w h))) kXgood2 hSt hP hD hS (hl.1.trans hml.symm) dX3_undo_10 dX3_undo_13 dX3_undo_14 dX3_undo_16 dX3_undo_19 htab (Nat.le_of_ble_eq_true rfl) (Nat.le_of_ble_eq_true rfl) hlk kec2 kXe2)

theorem hdX3_digest : yX3_digest.cls = RX3 ∧ yX3_digest.cls ≠ "java/lang/invoke/MethodHandle" ∧ yX3_digest.cls ≠ "java/lang/invoke/VarHandle" ∧ (parseMethodDescriptor yX3_digest.desc).map (fun d => d.parameters.length) = some 0 := by decide +kernel
def fx3_digest_L95 (L : (Nat → St)) : Nat → Int64 → Int32 → Int64
  | 0, _, _ => 0
  | n95 + 1, y1, y3 => (if 17 < y3 then (bnd (fx2_mixInto 4 20 80 (stT (L 0) 0) y1) (fun v96002 => (bnd (fx2_mixInto 6 35 210 (stT (L 0) 1) v96002) (fun v96003 => (31 * v96003) + ((fx0_count ((L 7) 1 0, (L 7) 1 1)).toInt64))))) else fx3_digest_L95 L n95 ((31 * y1) + ((fx1_counted (L 0) y3).toInt64)) (y3 + 1))
def sx3_digest_L95 (L : (Nat → St)) : Nat → Int64 → Int32 → Prop
  | 0, _, _ => False
  | n95 + 1, y1, y3 => (if 17 < y3 then (sx2_mixInto 4 20 80 (stT (L 0) 0) y1 ∧ (bnd (fx2_mixInto 4 20 80 (stT (L 0) 0) y1) (fun v96002 => sx2_mixInto 6 35 210 (stT (L 0) 1) v96002))) else sx3_digest_L95 L n95 ((31 * y1) + ((fx1_counted (L 0) y3).toInt64)) (y3 + 1))
def fx3_digest_L65 (L : (Nat → St)) : Nat → Int64 → Int32 → Int64
  | 0, _, _ => 0
  | n65 + 1, y1, y3 => (if 7 < y3 then fx3_digest_L95 L kfu y1 0 else (bnd (fx1_statusOf (L 0) y3) (fun v66002 => fx3_digest_L65 L n65 ((31 * y1) + ((v66002).toInt64)) (y3 + 1))))
def sx3_digest_L65 (L : (Nat → St)) : Nat → Int64 → Int32 → Prop
  | 0, _, _ => False
  | n65 + 1, y1, y3 => (if 7 < y3 then sx3_digest_L95 L kfu y1 0 else (bnd (fx1_statusOf (L 0) y3) (fun v66002 => sx3_digest_L65 L n65 ((31 * y1) + ((v66002).toInt64)) (y3 + 1))))
def fx3_digest_L12 (L : (Nat → St)) : Nat → Int64 → Int32 → Int64
  | 0, _, _ => 0
  | n12 + 1, y1, y3 => (if 12 < y3 then (if ((L 0) 3 3) = 0 then fx3_digest_L65 L kfu ((31 * y1) + ((0 : Int32).toInt64)) 0 else fx3_digest_L65 L kfu ((31 * y1) + ((1 : Int32).toInt64)) 0) else (bnd (fx1_valueOf (L 0) y3) (fun v13003 => fx3_digest_L12 L n12 ((31 * y1) + ((v13003).toInt64)) (y3 + 1))))
def sx3_digest_L12 (L : (Nat → St)) : Nat → Int64 → Int32 → Prop
  | 0, _, _ => False
  | n12 + 1, y1, y3 => (if 12 < y3 then (if ((L 0) 3 3) = 0 then sx3_digest_L65 L kfu ((31 * y1) + ((0 : Int32).toInt64)) 0 else sx3_digest_L65 L kfu ((31 * y1) + ((1 : Int32).toInt64)) 0) else (bnd (fx1_valueOf (L 0) y3) (fun v13003 => sx3_digest_L12 L n12 ((31 * y1) + ((v13003).toInt64)) (y3 + 1))))
def fx3_digest (L : (Nat → St)) : Int64 := fx3_digest_L12 L kfu (91109 + (((L 7) 1 2).toInt64)) 0
def sx3_digest (L : (Nat → St)) : Prop := sx3_digest_L12 L kfu (91109 + (((L 7) 1 2).toInt64)) 0
set_option maxHeartbeats 4000000 in
set_option maxRecDepth 100000 in
theorem cx3_digest {l : Launch} {D : va_G} {cI cB cS cJ : ClassId} {K : State → Prop} (EX : kEX D cI cB cS cJ K) (aL : Nat → Nat → Nat) (L : (Nat → St)) (hF : sx3_digest L) : kJ l D K yX3_digest wsX3_digest 2 49 [.ref (aL 7 0)] (lsW cI cB cS aL L) (fx3_digest L) (lsW cI cB cS aL L) := by
  have E := EX.1
  refine kJ_of (own := RX3) (cc := cX3_digest) (maxL := 4) (tys := kty cI cB cS cJ) (fun U h => (E.2 U h).1) (by decide) rfl rfl (Nat.le_of_ble_eq_true rfl) ?_
  intro p e s m below meth c A ls hx hb hr hml hts hown hlk hKs hK hP hD hA hS hl
  have hl : lv_has ls 4 [(0, .ref (aL 7 0))] := hl
  have hX : CallFix p m c cX3_digest 4 s _ wsX3_digest RX3 := ⟨hx, hb, hml, hown, hts⟩
  have hinX3 : ∀ w ∈ wsX30, w ∈ wsX3_digest := fun w h => List.mem_cons_of_mem _ (List.mem_append_left _ (List.mem_append_left _ (List.mem_append_left _ (List.mem_append_right _ h))))
  have hinX1 : ∀ w ∈ wsX10, w ∈ wsX3_digest := fun w h => List.mem_cons_of_mem _ (List.mem_append_left _ (List.mem_append_left _ (List.mem_append_right _ h)))
  have q1 := hts (.constantLong RX3 227 (91109)) (List.mem_of_getElem? (i := 1) rfl)
  have q2 := hts (.fieldLink RX3 30 "LabelStation" "textLength" "I") (List.mem_of_getElem? (i := 2) rfl)
  have q3 := hts (.constantLong RX3 229 (31)) (List.mem_of_getElem? (i := 3) rfl)
  have q4 := hts (.fieldLink RX3 10 "LabelStation" "state" "LLabelStation$State;") (List.mem_of_getElem? (i := 4) rfl)
  have q5 := hts (.fieldLink RX3 22 "LabelStation" "history" "LLabelStation$History;") (List.mem_of_getElem? (i := 5) rfl)
  generalize hR : fx3_digest L = R
  rw [fx3_digest] at hR
  rw [sx3_digest] at hF
  refine lv_ldc2 (v := 91109) hx hb hown q1 dX3_digest_0 ?_
  refine lv_aload_n hx hb dX3_digest_3 rfl (lv_at hl 0 rfl) ?_
  refine va_get (D := D) (ci := 3) (v := .int ((L 7) 1 2)) (C := RX3) (T := TX3) (N := 5) hx hb hts hinX3 hown hK hP 0 rfl rfl 4 (by decide) q2 (fun _ h9 => h9) rfl dX3_digest_4 ?_
  refine lv_i2l hx hb dX3_digest_7 rfl ?_
  refine lv_ladd hx hb dX3_digest_8 ?_
  refine lv_lstore_n (lv' := [(1, .long (91109 + (((L 7) 1 2).toInt64))), (0, .ref (aL 7 0))]) hx hb dX3_digest_9 rfl hl (by decide) rfl (fun ls hl => ?_)
  refine lv_iconst (v := 0) hx hb dX3_digest_10 (by decide) ?_
  refine lv_istore_n (lv' := [(3, .int 0), (1, .long (91109 + (((L 7) 1 2).toInt64))), (0, .ref (aL 7 0))]) hx hb dX3_digest_11 rfl hl (by decide) rfl (fun ls hl => ?_)
  have loop12 : ∀ (n12 : Nat) (y1 : Int64) (y3 : Int32) (H : Heap) (locs : List Loc) (ls : Array Slot), fx3_digest_L12 L n12 y1 y3 = R → sx3_digest_L12 L n12 y1 y3 → va_P D vwCl (lsW cI cB cS aL L) H → va_D A (lsW cI cB cS aL L) → va_S A s.heap H locs → lv_has ls 4 [(1, .long y1), (3, .int y3), (0, .ref (aL 7 0))] → W p l e (kRm 2 49) s m ([.ref (aL 7 0)] : List Value).toArray below meth c H locs 0 0 (kQJ D below R (lsW cI cB cS aL L) A ([.ref (aL 7 0)] : List Value).toArray s) (F0 m 12 ls []) := by
    intro n12
    induction n12 with
    | zero => intro y1 y3 H locs ls hR hF; exact hF.elim
    | succ n12 ih12 =>
      intro y1 y3 H locs ls hR hF hP hD hS hl
      rw [fx3_digest_L12] at hR
      rw [sx3_digest_L12] at hF
      refine lv_iload_n hx hb dX3_digest_12 rfl (lv_at hl 1 rfl) ?_
      refine lv_bipush (v := 12) hx hb dX3_digest_13 (by decide) ?_
      refine lv_icmp_gt (tgt := 40) hx hb dX3_digest_15 (by decide) (fun c13001 => ?_) (fun c13001 => ?_)
      · rw [if_pos c13001] at hR hF
        refine lv_ldc2 (v := 31) hx hb hown q3 dX3_digest_40 ?_
        refine lv_lload_n hx hb dX3_digest_43 rfl (lv_at hl 0 rfl) ?_
        refine lv_lmul hx hb dX3_digest_44 ?_
        refine lv_aload_n hx hb dX3_digest_45 rfl (lv_at hl 2 rfl) ?_
        refine va_get (D := D) (ci := 3) (v := .ref (aL 0 0)) (C := RX3) (T := TX3) (N := 5) hx hb hts hinX3 hown hK hP 0 rfl rfl 0 (by decide) q4 (fun _ h9 => h9) rfl dX3_digest_46 ?_
        refine va_getN (D := D) (ci := 1) (v := .int ((L 0) 3 3)) (C := RX1) (T := TX1) (N := 16) hx hb hts hinX1 hown hK hP 15 rfl rfl 11 (by decide) (va_Nw.use rfl ((E.2 s hKs).2.2.2.1)) (fun _ h9 => h9) rfl dX3_digest_49 ?_
        refine lv_if_eq (tgt := 59) hx hb dX3_digest_52 (by decide) (fun c13002 => ?_) (fun c13002 => ?_)
        · rw [if_pos c13002] at hR hF
          refine lv_iconst (v := 0) hx hb dX3_digest_59 (by decide) ?_
          refine lv_i2l hx hb dX3_digest_60 rfl ?_
          refine lv_ladd hx hb dX3_digest_61 ?_
          refine lv_lstore_n (lv' := [(1, .long ((31 * y1) + ((0 : Int32).toInt64))), (3, .int y3), (0, .ref (aL 7 0))]) hx hb dX3_digest_62 rfl hl (by decide) rfl (fun ls hl => ?_)
          refine lv_iconst (v := 0) hx hb dX3_digest_63 (by decide) ?_
          refine lv_istore_n (lv' := [(3, .int 0), (1, .long ((31 * y1) + ((0 : Int32).toInt64))), (0, .ref (aL 7 0))]) hx hb dX3_digest_64 rfl hl (by decide) rfl (fun ls hl => ?_)
          have loop65 : ∀ (n65 : Nat) (y1 : Int64) (y3 : Int32) (H : Heap) (locs : List Loc) (ls : Array Slot), fx3_digest_L65 L n65 y1 y3 = R → sx3_digest_L65 L n65 y1 y3 → va_P D vwCl (lsW cI cB cS aL L) H → va_D A (lsW cI cB cS aL L) → va_S A s.heap H locs → lv_has ls 4 [(1, .long y1), (3, .int y3), (0, .ref (aL 7 0))] → W p l e (kRm 2 49) s m ([.ref (aL 7 0)] : List Value).toArray below meth c H locs 0 0 (kQJ D below R (lsW cI cB cS aL L) A ([.ref (aL 7 0)] : List Value).toArray s) (F0 m 65 ls []) := by
            intro n65
            induction n65 with
            | zero => intro y1 y3 H locs ls hR hF; exact hF.elim
            | succ n65 ih65 =>
              intro y1 y3 H locs ls hR hF hP hD hS hl
              rw [fx3_digest_L65] at hR
              rw [sx3_digest_L65] at hF
              refine lv_iload_n hx hb dX3_digest_65 rfl (lv_at hl 1 rfl) ?_
              refine lv_bipush (v := 7) hx hb dX3_digest_66 (by decide) ?_
              refine lv_icmp_gt (tgt := 93) hx hb dX3_digest_68 (by decide) (fun c66001 => ?_) (fun c66001 => ?_)
              · rw [if_pos c66001] at hR hF
                refine lv_iconst (v := 0) hx hb dX3_digest_93 (by decide) ?_
                refine lv_istore_n (lv' := [(3, .int 0), (1, .long y1), (0, .ref (aL 7 0))]) hx hb dX3_digest_94 rfl hl (by decide) rfl (fun ls hl => ?_)
                have loop95 : ∀ (n95 : Nat) (y1 : Int64) (y3 : Int32) (H : Heap) (locs : List Loc) (ls : Array Slot), fx3_digest_L95 L n95 y1 y3 = R → sx3_digest_L95 L n95 y1 y3 → va_P D vwCl (lsW cI cB cS aL L) H → va_D A (lsW cI cB cS aL L) → va_S A s.heap H locs → lv_has ls 4 [(1, .long y1), (3, .int y3), (0, .ref (aL 7 0))] → W p l e (kRm 2 49) s m ([.ref (aL 7 0)] : List Value).toArray below meth c H locs 0 0 (kQJ D below R (lsW cI cB cS aL L) A ([.ref (aL 7 0)] : List Value).toArray s) (F0 m 95 ls []) := by
                  intro n95
                  induction n95 with
                  | zero => intro y1 y3 H locs ls hR hF; exact hF.elim
                  | succ n95 ih95 =>
                    intro y1 y3 H locs ls hR hF hP hD hS hl
                    rw [fx3_digest_L95] at hR
                    rw [sx3_digest_L95] at hF
                    refine lv_iload_n hx hb dX3_digest_95 rfl (lv_at hl 1 rfl) ?_
                    refine lv_bipush (v := 17) hx hb dX3_digest_96 (by decide) ?_
                    refine lv_icmp_gt (tgt := 123) hx hb dX3_digest_98 (by decide) (fun c96001 => ?_) (fun c96001 => ?_)
                    · rw [if_pos c96001] at hR hF
                      refine lv_aload_n hx hb dX3_digest_123 rfl (lv_at hl 2 rfl) ?_
                      refine va_get (D := D) (ci := 3) (v := .ref (aL 0 0)) (C := RX3) (T := TX3) (N := 5) hx hb hts hinX3 hown hK hP 0 rfl rfl 0 (by decide) q4 (fun _ h9 => h9) rfl dX3_digest_124 ?_
                      refine va_getN (D := D) (ci := 1) (v := .ref (aL 0 4)) (C := RX1) (T := TX1) (N := 16) hx hb hts hinX1 hown hK hP 15 rfl rfl 3 (by decide) (va_Nw.use rfl ((E.2 s hKs).2.1)) (fun _ h9 => h9) rfl dX3_digest_127 ?_
                      refine lv_lload_n hx hb dX3_digest_130 rfl (lv_at hl 0 rfl) ?_
                      obtain ⟨hs96005, hF⟩ := hF
                      refine kcJ (ci := 2) (q0 := 0) (As := [.long y1]) (rest := []) E.1 (cx2_mixInto E (aL 0 4) (aL 0 5) 4 20 80 (by decide) (stT (L 0) 0) y1 hs96005) hX (cwV 1 hts gX3_digest_X2_mixInto rfl rfl rfl hdX2_mixInto ⟨Nat.le_of_ble_eq_true rfl, Nat.le_of_ble_eq_true rfl⟩) hKs hK hP hD hS hA _ _ (ls_tb0 cI cB cS aL L) (ls_tb0 cI cB cS aL L).symm rfl rfl rfl rfl hl.1 (Nat.le_of_ble_eq_true rfl) dX3_digest_131 ⟨Nat.zero_le _, Nat.zero_le _⟩ (fun H locs hP hD hS => ?_)
                      generalize ev96002 : fx2_mixInto 4 20 80 (stT (L 0) 0) y1 = v96002 at hR hF ⊢
                      replace hR := bnd_e hR
                      replace hF := bnd_p hF
                      refine lv_lstore_n (lv' := [(1, .long v96002), (3, .int y3), (0, .ref (aL 7 0))]) hx hb dX3_digest_134 rfl hl (by decide) rfl (fun ls hl => ?_)
                      refine lv_aload_n hx hb dX3_digest_135 rfl (lv_at hl 2 rfl) ?_
                      refine va_get (D := D) (ci := 3) (v := .ref (aL 0 0)) (C := RX3) (T := TX3) (N := 5) hx hb hts hinX3 hown hK hP 0 rfl rfl 0 (by decide) q4 (fun _ h9 => h9) rfl dX3_digest_136 ?_
                      refine va_getN (D := D) (ci := 1) (v := .ref (aL 0 6)) (C := RX1) (T := TX1) (N := 16) hx hb hts hinX1 hown hK hP 15 rfl rfl 4 (by decide) (va_Nw.use rfl ((E.2 s hKs).2.2.1)) (fun _ h9 => h9) rfl dX3_digest_139 ?_
                      refine lv_lload_n hx hb dX3_digest_142 rfl (lv_at hl 0 rfl) ?_
                      have hs96004 := hF
                      refine kcJ (ci := 2) (q0 := 0) (As := [.long v96002]) (rest := []) E.1 (cx2_mixInto E (aL 0 6) (aL 0 7) 6 35 210 (by decide) (stT (L 0) 1) v96002 hs96004) hX (cwV 1 hts gX3_digest_X2_mixInto rfl rfl rfl hdX2_mixInto ⟨Nat.le_of_ble_eq_true rfl, Nat.le_of_ble_eq_true rfl⟩) hKs hK hP hD hS hA _ _ (ls_tb1 cI cB cS aL L) (ls_tb1 cI cB cS aL L).symm rfl rfl rfl rfl hl.1 (Nat.le_of_ble_eq_true rfl) dX3_digest_143 ⟨Nat.zero_le _, Nat.zero_le _⟩ (fun H locs hP hD hS => ?_)
                      generalize ev96003 : fx2_mixInto 6 35 210 (stT (L 0) 1) v96002 = v96003 at hR ⊢
                      replace hR := bnd_e hR
                      refine lv_lstore_n (lv' := [(1, .long v96003), (3, .int y3), (0, .ref (aL 7 0))]) hx hb dX3_digest_146 rfl hl (by decide) rfl (fun ls hl => ?_)
                      refine lv_ldc2 (v := 31) hx hb hown q3 dX3_digest_147 ?_
                      refine lv_lload_n hx hb dX3_digest_150 rfl (lv_at hl 0 rfl) ?_
                      refine lv_lmul hx hb dX3_digest_151 ?_
                      refine lv_aload_n hx hb dX3_digest_152 rfl (lv_at hl 2 rfl) ?_
                      refine va_get (D := D) (ci := 3) (v := .ref (aL 7 1)) (C := RX3) (T := TX3) (N := 5) hx hb hts hinX3 hown hK hP 0 rfl rfl 2 (by decide) q5 (fun _ h9 => h9) rfl dX3_digest_153 ?_
                      refine kcI (ci := 0) (q0 := 0) (As := []) (rest := [.long (31 * v96003)]) E.1 (cx0_count E aL ((L 7) 1 0, (L 7) 1 1)) hX (cwV 0 hts gX3_digest_X0_count rfl rfl rfl hdX0_count ⟨Nat.le_of_ble_eq_true rfl, Nat.le_of_ble_eq_true rfl⟩) hKs hK hP hD hS hA _ _ (ls_hj cI cB cS aL L) (ls_hj cI cB cS aL L).symm rfl rfl rfl rfl hl.1 (Nat.le_of_ble_eq_true rfl) dX3_digest_156 ⟨Nat.zero_le _, Nat.zero_le _⟩ (fun H locs hP hD hS => ?_)
                      refine lv_i2l hx hb dX3_digest_159 rfl ?_
                      refine lv_ladd hx hb dX3_digest_160 ?_
                      subst hR
                      exact krJ hx hb hr hlk hP hD hS dX3_digest_161 rfl rfl
                    · rw [if_neg c96001] at hR hF
                      refine lv_ldc2 (v := 31) hx hb hown q3 dX3_digest_101 ?_
                      refine lv_lload_n hx hb dX3_digest_104 rfl (lv_at hl 0 rfl) ?_
                      refine lv_lmul hx hb dX3_digest_105 ?_
                      refine lv_aload_n hx hb dX3_digest_106 rfl (lv_at hl 2 rfl) ?_
                      refine va_get (D := D) (ci := 3) (v := .ref (aL 0 0)) (C := RX3) (T := TX3) (N := 5) hx hb hts hinX3 hown hK hP 0 rfl rfl 0 (by decide) q4 (fun _ h9 => h9) rfl dX3_digest_107 ?_
                      refine lv_iload_n hx hb dX3_digest_110 rfl (lv_at hl 1 rfl) ?_
                      refine kcI (ci := 1) (q0 := 0) (As := [.int y3]) (rest := [.long (31 * y1)]) E.1 (cx1_counted E (aL 0) (L 0) y3) hX (cwV 1 hts gX3_digest_X1_counted rfl rfl rfl hdX1_counted ⟨Nat.le_of_ble_eq_true rfl, Nat.le_of_ble_eq_true rfl⟩) hKs hK hP hD hS hA _ _ (ls_st0 cI cB cS aL L) (ls_st0 cI cB cS aL L).symm rfl rfl rfl rfl hl.1 (Nat.le_of_ble_eq_true rfl) dX3_digest_111 ⟨Nat.zero_le _, Nat.zero_le _⟩ (fun H locs hP hD hS => ?_)
                      refine lv_i2l hx hb dX3_digest_114 rfl ?_
                      refine lv_ladd hx hb dX3_digest_115 ?_
                      refine lv_lstore_n (lv' := [(1, .long ((31 * y1) + ((fx1_counted (L 0) y3).toInt64))), (3, .int y3), (0, .ref (aL 7 0))]) hx hb dX3_digest_116 rfl hl (by decide) rfl (fun ls hl => ?_)
                      refine lv_iinc (v := y3 + 1) (lv' := [(3, .int (y3 + 1)), (1, .long ((31 * y1) + ((fx1_counted (L 0) y3).toInt64))), (0, .ref (aL 7 0))]) hx hb dX3_digest_117 hl (k := 1) rfl rfl (by decide) rfl (fun ls hl => ?_)
                      refine lv_goto (tgt := 95) hx hb dX3_digest_120 (by decide) ?_
                      exact ih95 ((31 * y1) + ((fx1_counted (L 0) y3).toInt64)) (y3 + 1) _ _ ls hR hF hP hD hS (lv_sub hl [1, 0, 2] rfl)
                exact loop95 kfu y1 0 _ _ ls hR hF hP hD hS (lv_sub hl [1, 0, 2] rfl)
              · rw [if_neg c66001] at hR hF
                refine lv_ldc2 (v := 31) hx hb hown q3 dX3_digest_71 ?_
                refine lv_lload_n hx hb dX3_digest_74 rfl (lv_at hl 0 rfl) ?_
                refine lv_lmul hx hb dX3_digest_75 ?_
                refine lv_aload_n hx hb dX3_digest_76 rfl (lv_at hl 2 rfl) ?_
                refine va_get (D := D) (ci := 3) (v := .ref (aL 0 0)) (C := RX3) (T := TX3) (N := 5) hx hb hts hinX3 hown hK hP 0 rfl rfl 0 (by decide) q4 (fun _ h9 => h9) rfl dX3_digest_77 ?_
                refine lv_iload_n hx hb dX3_digest_80 rfl (lv_at hl 1 rfl) ?_
                refine kcI (ci := 1) (q0 := 0) (As := [.int y3]) (rest := [.long (31 * y1)]) E.1 (cx1_statusOf E (aL 0) (L 0) y3) hX (cwV 1 hts gX3_digest_X1_statusOf rfl rfl rfl hdX1_statusOf ⟨Nat.le_of_ble_eq_true rfl, Nat.le_of_ble_eq_true rfl⟩) hKs hK hP hD hS hA _ _ (ls_st0 cI cB cS aL L) (ls_st0 cI cB cS aL L).symm rfl rfl rfl rfl hl.1 (Nat.le_of_ble_eq_true rfl) dX3_digest_81 ⟨Nat.zero_le _, Nat.zero_le _⟩ (fun H locs hP hD hS => ?_)
                generalize ev66002 : fx1_statusOf (L 0) y3 = v66002 at hR hF ⊢
                replace hR := bnd_e hR
                replace hF := bnd_p hF
                refine lv_i2l hx hb dX3_digest_84 rfl ?_
                refine lv_ladd hx hb dX3_digest_85 ?_
                refine lv_lstore_n (lv' := [(1, .long ((31 * y1) + ((v66002).toInt64))), (3, .int y3), (0, .ref (aL 7 0))]) hx hb dX3_digest_86 rfl hl (by decide) rfl (fun ls hl => ?_)
                refine lv_iinc (v := y3 + 1) (lv' := [(3, .int (y3 + 1)), (1, .long ((31 * y1) + ((v66002).toInt64))), (0, .ref (aL 7 0))]) hx hb dX3_digest_87 hl (k := 1) rfl rfl (by decide) rfl (fun ls hl => ?_)
                refine lv_goto (tgt := 65) hx hb dX3_digest_90 (by decide) ?_
                exact ih65 ((31 * y1) + ((v66002).toInt64)) (y3 + 1) _ _ ls hR hF hP hD hS (lv_sub hl [1, 0, 2] rfl)
          exact loop65 kfu ((31 * y1) + ((0 : Int32).toInt64)) 0 _ _ ls hR hF hP hD hS (lv_sub hl [1, 0, 2] rfl)
        · rw [if_neg c13002] at hR hF
          refine lv_iconst (v := 1) hx hb dX3_digest_55 (by decide) ?_
          refine lv_goto (tgt := 60) hx hb dX3_digest_56 (by decide) ?_
          refine lv_i2l hx hb dX3_digest_60 rfl ?_
          refine lv_ladd hx hb dX3_digest_61 ?_
          refine lv_lstore_n (lv' := [(1, .long ((31 * y1) + ((1 : Int32).toInt64))), (3, .int y3), (0, .ref (aL 7 0))]) hx hb dX3_digest_62 rfl hl (by decide) rfl (fun ls hl => ?_)
          refine lv_iconst (v := 0) hx hb dX3_digest_63 (by decide) ?_
          refine lv_istore_n (lv' := [(3, .int 0), (1, .long ((31 * y1) + ((1 : Int32).toInt64))), (0, .ref (aL 7 0))]) hx hb dX3_digest_64 rfl hl (by decide) rfl (fun ls hl => ?_)
          have loop65 : ∀ (n65 : Nat) (y1 : Int64) (y3 : Int32) (H : Heap) (locs : List Loc) (ls : Array Slot), fx3_digest_L65 L n65 y1 y3 = R → sx3_digest_L65 L n65 y1 y3 → va_P D vwCl (lsW cI cB cS aL L) H → va_D A (lsW cI cB cS aL L) → va_S A s.heap H locs → lv_has ls 4 [(1, .long y1), (3, .int y3), (0, .ref (aL 7 0))] → W p l e (kRm 2 49) s m ([.ref (aL 7 0)] : List Value).toArray below meth c H locs 0 0 (kQJ D below R (lsW cI cB cS aL L) A ([.ref (aL 7 0)] : List Value).toArray s) (F0 m 65 ls []) := by
            intro n65
            induction n65 with
            | zero => intro y1 y3 H locs ls hR hF; exact hF.elim
            | succ n65 ih65 =>
              intro y1 y3 H locs ls hR hF hP hD hS hl
              rw [fx3_digest_L65] at hR
              rw [sx3_digest_L65] at hF
              refine lv_iload_n hx hb dX3_digest_65 rfl (lv_at hl 1 rfl) ?_
              refine lv_bipush (v := 7) hx hb dX3_digest_66 (by decide) ?_
              refine lv_icmp_gt (tgt := 93) hx hb dX3_digest_68 (by decide) (fun c66001 => ?_) (fun c66001 => ?_)
              · rw [if_pos c66001] at hR hF
                refine lv_iconst (v := 0) hx hb dX3_digest_93 (by decide) ?_
                refine lv_istore_n (lv' := [(3, .int 0), (1, .long y1), (0, .ref (aL 7 0))]) hx hb dX3_digest_94 rfl hl (by decide) rfl (fun ls hl => ?_)
                have loop95 : ∀ (n95 : Nat) (y1 : Int64) (y3 : Int32) (H : Heap) (locs : List Loc) (ls : Array Slot), fx3_digest_L95 L n95 y1 y3 = R → sx3_digest_L95 L n95 y1 y3 → va_P D vwCl (lsW cI cB cS aL L) H → va_D A (lsW cI cB cS aL L) → va_S A s.heap H locs → lv_has ls 4 [(1, .long y1), (3, .int y3), (0, .ref (aL 7 0))] → W p l e (kRm 2 49) s m ([.ref (aL 7 0)] : List Value).toArray below meth c H locs 0 0 (kQJ D below R (lsW cI cB cS aL L) A ([.ref (aL 7 0)] : List Value).toArray s) (F0 m 95 ls []) := by
                  intro n95
                  induction n95 with
                  | zero => intro y1 y3 H locs ls hR hF; exact hF.elim
                  | succ n95 ih95 =>
                    intro y1 y3 H locs ls hR hF hP hD hS hl
                    rw [fx3_digest_L95] at hR
                    rw [sx3_digest_L95] at hF
                    refine lv_iload_n hx hb dX3_digest_95 rfl (lv_at hl 1 rfl) ?_
                    refine lv_bipush (v := 17) hx hb dX3_digest_96 (by decide) ?_
                    refine lv_icmp_gt (tgt := 123) hx hb dX3_digest_98 (by decide) (fun c96001 => ?_) (fun c96001 => ?_)
                    · rw [if_pos c96001] at hR hF
                      refine lv_aload_n hx hb dX3_digest_123 rfl (lv_at hl 2 rfl) ?_
                      refine va_get (D := D) (ci := 3) (v := .ref (aL 0 0)) (C := RX3) (T := TX3) (N := 5) hx hb hts hinX3 hown hK hP 0 rfl rfl 0 (by decide) q4 (fun _ h9 => h9) rfl dX3_digest_124 ?_
                      refine va_getN (D := D) (ci := 1) (v := .ref (aL 0 4)) (C := RX1) (T := TX1) (N := 16) hx hb hts hinX1 hown hK hP 15 rfl rfl 3 (by decide) (va_Nw.use rfl ((E.2 s hKs).2.1)) (fun _ h9 => h9) rfl dX3_digest_127 ?_
                      refine lv_lload_n hx hb dX3_digest_130 rfl (lv_at hl 0 rfl) ?_
                      obtain ⟨hs96005, hF⟩ := hF
                      refine kcJ (ci := 2) (q0 := 0) (As := [.long y1]) (rest := []) E.1 (cx2_mixInto E (aL 0 4) (aL 0 5) 4 20 80 (by decide) (stT (L 0) 0) y1 hs96005) hX (cwV 1 hts gX3_digest_X2_mixInto rfl rfl rfl hdX2_mixInto ⟨Nat.le_of_ble_eq_true rfl, Nat.le_of_ble_eq_true rfl⟩) hKs hK hP hD hS hA _ _ (ls_tb0 cI cB cS aL L) (ls_tb0 cI cB cS aL L).symm rfl rfl rfl rfl hl.1 (Nat.le_of_ble_eq_true rfl) dX3_digest_131 ⟨Nat.zero_le _, Nat.zero_le _⟩ (fun H locs hP hD hS => ?_)
                      generalize ev96002 : fx2_mixInto 4 20 80 (stT (L 0) 0) y1 = v96002 at hR hF ⊢
                      replace hR := bnd_e hR
                      replace hF := bnd_p hF
                      refine lv_lstore_n (lv' := [(1, .long v96002), (3, .int y3), (0, .ref (aL 7 0))]) hx hb dX3_digest_134 rfl hl (by decide) rfl (fun ls hl => ?_)
                      refine lv_aload_n hx hb dX3_digest_135 rfl (lv_at hl 2 rfl) ?_
                      refine va_get (D := D) (ci := 3) (v := .ref (aL 0 0)) (C := RX3) (T := TX3) (N := 5) hx hb hts hinX3 hown hK hP 0 rfl rfl 0 (by decide) q4 (fun _ h9 => h9) rfl dX3_digest_136 ?_
                      refine va_getN (D := D) (ci := 1) (v := .ref (aL 0 6)) (C := RX1) (T := TX1) (N := 16) hx hb hts hinX1 hown hK hP 15 rfl rfl 4 (by decide) (va_Nw.use rfl ((E.2 s hKs).2.2.1)) (fun _ h9 => h9) rfl dX3_digest_139 ?_
                      refine lv_lload_n hx hb dX3_digest_142 rfl (lv_at hl 0 rfl) ?_
                      have hs96004 := hF
                      refine kcJ (ci := 2) (q0 := 0) (As := [.long v96002]) (rest := []) E.1 (cx2_mixInto E (aL 0 6) (aL 0 7) 6 35 210 (by decide) (stT (L 0) 1) v96002 hs96004) hX (cwV 1 hts gX3_digest_X2_mixInto rfl rfl rfl hdX2_mixInto ⟨Nat.le_of_ble_eq_true rfl, Nat.le_of_ble_eq_true rfl⟩) hKs hK hP hD hS hA _ _ (ls_tb1 cI cB cS aL L) (ls_tb1 cI cB cS aL L).symm rfl rfl rfl rfl hl.1 (Nat.le_of_ble_eq_true rfl) dX3_digest_143 ⟨Nat.zero_le _, Nat.zero_le _⟩ (fun H locs hP hD hS => ?_)
                      generalize ev96003 : fx2_mixInto 6 35 210 (stT (L 0) 1) v96002 = v96003 at hR ⊢
                      replace hR := bnd_e hR
                      refine lv_lstore_n (lv' := [(1, .long v96003), (3, .int y3), (0, .ref (aL 7 0))]) hx hb dX3_digest_146 rfl hl (by decide) rfl (fun ls hl => ?_)
                      refine lv_ldc2 (v := 31) hx hb hown q3 dX3_digest_147 ?_
                      refine lv_lload_n hx hb dX3_digest_150 rfl (lv_at hl 0 rfl) ?_
                      refine lv_lmul hx hb dX3_digest_151 ?_
                      refine lv_aload_n hx hb dX3_digest_152 rfl (lv_at hl 2 rfl) ?_
                      refine va_get (D := D) (ci := 3) (v := .ref (aL 7 1)) (C := RX3) (T := TX3) (N := 5) hx hb hts hinX3 hown hK hP 0 rfl rfl 2 (by decide) q5 (fun _ h9 => h9) rfl dX3_digest_153 ?_
                      refine kcI (ci := 0) (q0 := 0) (As := []) (rest := [.long (31 * v96003)]) E.1 (cx0_count E aL ((L 7) 1 0, (L 7) 1 1)) hX (cwV 0 hts gX3_digest_X0_count rfl rfl rfl hdX0_count ⟨Nat.le_of_ble_eq_true rfl, Nat.le_of_ble_eq_true rfl⟩) hKs hK hP hD hS hA _ _ (ls_hj cI cB cS aL L) (ls_hj cI cB cS aL L).symm rfl rfl rfl rfl hl.1 (Nat.le_of_ble_eq_true rfl) dX3_digest_156 ⟨Nat.zero_le _, Nat.zero_le _⟩ (fun H locs hP hD hS => ?_)
                      refine lv_i2l hx hb dX3_digest_159 rfl ?_
                      refine lv_ladd hx hb dX3_digest_160 ?_
                      subst hR
                      exact krJ hx hb hr hlk hP hD hS dX3_digest_161 rfl rfl
                    · rw [if_neg c96001] at hR hF
                      refine lv_ldc2 (v := 31) hx hb hown q3 dX3_digest_101 ?_
                      refine lv_lload_n hx hb dX3_digest_104 rfl (lv_at hl 0 rfl) ?_
                      refine lv_lmul hx hb dX3_digest_105 ?_
                      refine lv_aload_n hx hb dX3_digest_106 rfl (lv_at hl 2 rfl) ?_
                      refine va_get (D := D) (ci := 3) (v := .ref (aL 0 0)) (C := RX3) (T := TX3) (N := 5) hx hb hts hinX3 hown hK hP 0 rfl rfl 0 (by decide) q4 (fun _ h9 => h9) rfl dX3_digest_107 ?_
                      refine lv_iload_n hx hb dX3_digest_110 rfl (lv_at hl 1 rfl) ?_
                      refine kcI (ci := 1) (q0 := 0) (As := [.int y3]) (rest := [.long (31 * y1)]) E.1 (cx1_counted E (aL 0) (L 0) y3) hX (cwV 1 hts gX3_digest_X1_counted rfl rfl rfl hdX1_counted ⟨Nat.le_of_ble_eq_true rfl, Nat.le_of_ble_eq_true rfl⟩) hKs hK hP hD hS hA _ _ (ls_st0 cI cB cS aL L) (ls_st0 cI cB cS aL L).symm rfl rfl rfl rfl hl.1 (Nat.le_of_ble_eq_true rfl) dX3_digest_111 ⟨Nat.zero_le _, Nat.zero_le _⟩ (fun H locs hP hD hS => ?_)
                      refine lv_i2l hx hb dX3_digest_114 rfl ?_
                      refine lv_ladd hx hb dX3_digest_115 ?_
                      refine lv_lstore_n (lv' := [(1, .long ((31 * y1) + ((fx1_counted (L 0) y3).toInt64))), (3, .int y3), (0, .ref (aL 7 0))]) hx hb dX3_digest_116 rfl hl (by decide) rfl (fun ls hl => ?_)
                      refine lv_iinc (v := y3 + 1) (lv' := [(3, .int (y3 + 1)), (1, .long ((31 * y1) + ((fx1_counted (L 0) y3).toInt64))), (0, .ref (aL 7 0))]) hx hb dX3_digest_117 hl (k := 1) rfl rfl (by decide) rfl (fun ls hl => ?_)
                      refine lv_goto (tgt := 95) hx hb dX3_digest_120 (by decide) ?_
                      exact ih95 ((31 * y1) + ((fx1_counted (L 0) y3).toInt64)) (y3 + 1) _ _ ls hR hF hP hD hS (lv_sub hl [1, 0, 2] rfl)
                exact loop95 kfu y1 0 _ _ ls hR hF hP hD hS (lv_sub hl [1, 0, 2] rfl)
              · rw [if_neg c66001] at hR hF
                refine lv_ldc2 (v := 31) hx hb hown q3 dX3_digest_71 ?_
                refine lv_lload_n hx hb dX3_digest_74 rfl (lv_at hl 0 rfl) ?_
                refine lv_lmul hx hb dX3_digest_75 ?_
                refine lv_aload_n hx hb dX3_digest_76 rfl (lv_at hl 2 rfl) ?_
                refine va_get (D := D) (ci := 3) (v := .ref (aL 0 0)) (C := RX3) (T := TX3) (N := 5) hx hb hts hinX3 hown hK hP 0 rfl rfl 0 (by decide) q4 (fun _ h9 => h9) rfl dX3_digest_77 ?_
                refine lv_iload_n hx hb dX3_digest_80 rfl (lv_at hl 1 rfl) ?_
                refine kcI (ci := 1) (q0 := 0) (As := [.int y3]) (rest := [.long (31 * y1)]) E.1 (cx1_statusOf E (aL 0) (L 0) y3) hX (cwV 1 hts gX3_digest_X1_statusOf rfl rfl rfl hdX1_statusOf ⟨Nat.le_of_ble_eq_true rfl, Nat.le_of_ble_eq_true rfl⟩) hKs hK hP hD hS hA _ _ (ls_st0 cI cB cS aL L) (ls_st0 cI cB cS aL L).symm rfl rfl rfl rfl hl.1 (Nat.le_of_ble_eq_true rfl) dX3_digest_81 ⟨Nat.zero_le _, Nat.zero_le _⟩ (fun H locs hP hD hS => ?_)
                generalize ev66002 : fx1_statusOf (L 0) y3 = v66002 at hR hF ⊢
                replace hR := bnd_e hR
                replace hF := bnd_p hF
                refine lv_i2l hx hb dX3_digest_84 rfl ?_
                refine lv_ladd hx hb dX3_digest_85 ?_
                refine lv_lstore_n (lv' := [(1, .long ((31 * y1) + ((v66002).toInt64))), (3, .int y3), (0, .ref (aL 7 0))]) hx hb dX3_digest_86 rfl hl (by decide) rfl (fun ls hl => ?_)
                refine lv_iinc (v := y3 + 1) (lv' := [(3, .int (y3 + 1)), (1, .long ((31 * y1) + ((v66002).toInt64))), (0, .ref (aL 7 0))]) hx hb dX3_digest_87 hl (k := 1) rfl rfl (by decide) rfl (fun ls hl => ?_)
                refine lv_goto (tgt := 65) hx hb dX3_digest_90 (by decide) ?_
                exact ih65 ((31 * y1) + ((v66002).toInt64)) (y3 + 1) _ _ ls hR hF hP hD hS (lv_sub hl [1, 0, 2] rfl)
          exact loop65 kfu ((31 * y1) + ((1 : Int32).toInt64)) 0 _ _ ls hR hF hP hD hS (lv_sub hl [1, 0, 2] rfl)
      · rw [if_neg c13001] at hR hF
        refine lv_ldc2 (v := 31) hx hb hown q3 dX3_digest_18 ?_
        refine lv_lload_n hx hb dX3_digest_21 rfl (lv_at hl 0 rfl) ?_
        refine lv_lmul hx hb dX3_digest_22 ?_
        refine lv_aload_n hx hb dX3_digest_23 rfl (lv_at hl 2 rfl) ?_
        refine va_get (D := D) (ci := 3) (v := .ref (aL 0 0)) (C := RX3) (T := TX3) (N := 5) hx hb hts hinX3 hown hK hP 0 rfl rfl 0 (by decide) q4 (fun _ h9 => h9) rfl dX3_digest_24 ?_
        refine lv_iload_n hx hb dX3_digest_27 rfl (lv_at hl 1 rfl) ?_
        refine kcI (ci := 1) (q0 := 0) (As := [.int y3]) (rest := [.long (31 * y1)]) E.1 (cx1_valueOf E (aL 0) (L 0) y3) hX (cwV 1 hts gX3_digest_X1_valueOf rfl rfl rfl hdX1_valueOf ⟨Nat.le_of_ble_eq_true rfl, Nat.le_of_ble_eq_true rfl⟩) hKs hK hP hD hS hA _ _ (ls_st0 cI cB cS aL L) (ls_st0 cI cB cS aL L).symm rfl rfl rfl rfl hl.1 (Nat.le_of_ble_eq_true rfl) dX3_digest_28 ⟨Nat.zero_le _, Nat.zero_le _⟩ (fun H locs hP hD hS => ?_)
        generalize ev13003 : fx1_valueOf (L 0) y3 = v13003 at hR hF ⊢
        replace hR := bnd_e hR
        replace hF := bnd_p hF
        refine lv_i2l hx hb dX3_digest_31 rfl ?_
        refine lv_ladd hx hb dX3_digest_32 ?_
        refine lv_lstore_n (lv' := [(1, .long ((31 * y1) + ((v13003).toInt64))), (3, .int y3), (0, .ref (aL 7 0))]) hx hb dX3_digest_33 rfl hl (by decide) rfl (fun ls hl => ?_)
        refine lv_iinc (v := y3 + 1) (lv' := [(3, .int (y3 + 1)), (1, .long ((31 * y1) + ((v13003).toInt64))), (0, .ref (aL 7 0))]) hx hb dX3_digest_34 hl (k := 1) rfl rfl (by decide) rfl (fun ls hl => ?_)
        refine lv_goto (tgt := 12) hx hb dX3_digest_37 (by decide) ?_
        exact ih12 ((31 * y1) + ((v13003).toInt64)) (y3 + 1) _ _ ls hR hF hP hD hS (lv_sub hl [1, 0, 2] rfl)
  exact loop12 kfu (91109 + (((L 7) 1 2).toInt64)) 0 _ _ ls hR hF hP hD hS (lv_sub hl [1, 0, 2] rfl)

/-! what the walk knows at the law's start -/
def KK (D : va_G) (cI cB cS cJ : ClassId) (U : State) : Prop := va_K D vwCl (kty cI cB cS cJ) U ∧ kN U ∧ (kStr U ∧ kXw U) ∧ va_AO RX1 U ∧ kCt U
def kwC : Cond → Bool
  | .castable .. => true
  | .declares .. => true
  | _ => false
theorem kw_warm {w : Cond} (h : kwC w = true) {s U : State} (hW : s.WarmedH U.vm) (hZ : va_Nw w s) : va_Nw w U := by
  cases w <;> first | exact va_Nw.warmC hW hZ | exact va_Nw.warmD hW hZ | exact Bool.noConfusion h
theorem kwC1 : ∀ w ∈ (vx_atS RX3 38 "java/lang/IllegalArgumentException" kTn).filter (fun w => !goodWord w), kwC w = true := by decide +kernel
theorem kwM1 : ∀ w ∈ (vx_atS RX3 38 "java/lang/IllegalArgumentException" kTn).filter (fun w => !goodWord w), w ∈ lw_tbl ∨ w ∈ flatC (Jvm.Cond.and given_1 narrow_1) := by decide +kernel
theorem kwC2 : ∀ w ∈ (vx_atS RX3 58 "java/lang/IllegalStateException" kTn).filter (fun w => !goodWord w), kwC w = true := by decide +kernel
theorem kwM2 : ∀ w ∈ (vx_atS RX3 58 "java/lang/IllegalStateException" kTn).filter (fun w => !goodWord w), w ∈ lw_tbl ∨ w ∈ flatC (Jvm.Cond.and given_1 narrow_1) := by decide +kernel
theorem kwC3 : ∀ w ∈ (kn3at RX3 133).filter (fun w => !goodWord w), kwC w = true := by decide +kernel
theorem kwM3 : ∀ w ∈ (kn3at RX3 133).filter (fun w => !goodWord w), w ∈ lw_tbl ∨ w ∈ flatC (Jvm.Cond.and given_1 narrow_1) := by decide +kernel
theorem kwC4 : ∀ w ∈ (vx_atS RX3 173 "java/lang/IndexOutOfBoundsException" kTn).filter (fun w => !goodWord w), kwC w = true := by decide +kernel
theorem kwM4 : ∀ w ∈ (vx_atS RX3 173 "java/lang/IndexOutOfBoundsException" kTn).filter (fun w => !goodWord w), w ∈ lw_tbl ∨ w ∈ flatC (Jvm.Cond.and given_1 narrow_1) := by decide +kernel
theorem kN_warm {s U : State} (hW : s.WarmedH U.vm) (h : kN s) : kN U := by
  obtain ⟨h0, h1, h2, h3, h4, h5, h6, h7⟩ := h
  exact ⟨h0.warmF hW, h1.warmF hW, h2.warmF hW, h3.warmF hW, h4.warmF hW, h5.warmF hW, h6.warmF hW, h7.warmF hW⟩
theorem kStr_warm {s U : State} (hW : s.WarmedH U.vm) (h : kStr s) : kStr U := by
  obtain ⟨⟨a0, h0⟩, ⟨a1, h1⟩, ⟨a2, h2⟩, ⟨a3, h3⟩, ⟨a4, h4⟩, ⟨a5, h5⟩, ⟨a6, h6⟩, ⟨a7, h7⟩, ⟨a8, h8⟩, ⟨a9, h9⟩, ⟨a10, h10⟩, ⟨a11, h11⟩, ⟨a12, h12⟩, ⟨a13, h13⟩, ⟨a14, h14⟩, ⟨a15, h15⟩, ⟨a16, h16⟩, ⟨a17, h17⟩, ⟨a18, h18⟩, ⟨a19, h19⟩, ⟨a20, h20⟩, ⟨a21, h21⟩, ⟨a22, h22⟩⟩ := h
  exact ⟨⟨a0, h0.warm hW⟩, ⟨a1, h1.warm hW⟩, ⟨a2, h2.warm hW⟩, ⟨a3, h3.warm hW⟩, ⟨a4, h4.warm hW⟩, ⟨a5, h5.warm hW⟩, ⟨a6, h6.warm hW⟩, ⟨a7, h7.warm hW⟩, ⟨a8, h8.warm hW⟩, ⟨a9, h9.warm hW⟩, ⟨a10, h10.warm hW⟩, ⟨a11, h11.warm hW⟩, ⟨a12, h12.warm hW⟩, ⟨a13, h13.warm hW⟩, ⟨a14, h14.warm hW⟩, ⟨a15, h15.warm hW⟩, ⟨a16, h16.warm hW⟩, ⟨a17, h17.warm hW⟩, ⟨a18, h18.warm hW⟩, ⟨a19, h19.warm hW⟩, ⟨a20, h20.warm hW⟩, ⟨a21, h21.warm hW⟩, ⟨a22, h22.warm hW⟩⟩
theorem KK_kK (D : va_G) (cI cB cS cJ : ClassId) : kK (KK D cI cB cS cJ) := by
  intro u U hW h
  obtain ⟨h1, h2, ⟨h3, h4⟩, h5, ⟨⟨h6, h7, h8, h9⟩, h10, h11⟩⟩ := h
  exact ⟨h1.moved hW.alike, kN_warm hW h2, ⟨kStr_warm hW h3, fun w hw => kw_warm (kwC1 w hw) hW (h4.1 w hw), fun w hw => kw_warm (kwC2 w hw) hW (h4.2.1 w hw), fun w hw => kw_warm (kwC3 w hw) hW (h4.2.2.1 w hw), fun w hw => kw_warm (kwC4 w hw) hW (h4.2.2.2 w hw)⟩, h5.moved hW.alike, ⟨h6.warmC hW, h7.warmC hW, h8.warmC hW, h9.warmC hW⟩, h10.moved hW.alike, h11.moved hW.alike⟩
theorem KK_EW (D : va_G) (cI cB cS cJ : ClassId) : kEW D cI cB cS cJ (KK D cI cB cS cJ) := ⟨⟨⟨KK_kK D cI cB cS cJ, fun U h => ⟨h.1, h.2.1⟩⟩, fun U h => h.2.2.1⟩, fun U h => h.2.2.2⟩
section KST
variable {s : State} {args : Array Value}
theorem kN_at (hts : ∀ w ∈ lw_tbl, w.before args s = true) : kN s :=
  ⟨va_Nw.of rfl (hts (.fieldLinkNest RX3 41 RX1 "items" "LLabelStation$Table;" RX3) (by decide +kernel)), va_Nw.of rfl (hts (.fieldLinkNest RX3 51 RX1 "records" "LLabelStation$Table;" RX3) (by decide +kernel)), va_Nw.of rfl (hts (.fieldLinkNest RX3 99 RX1 "jammed" "Z" RX3) (by decide +kernel)), va_Nw.of rfl (hts (.fieldLinkNest RX3 103 RX1 "running" "Z" RX3) (by decide +kernel)), va_Nw.of rfl (hts (.fieldLinkNest RX3 106 RX1 "alarm" "I" RX3) (by decide +kernel)), va_Nw.of rfl (hts (.fieldLinkNest RX3 157 RX1 "tick" "I" RX3) (by decide +kernel)), va_Nw.of rfl (hts (.fieldLinkNest RX3 179 RX1 "diverted" "I" RX3) (by decide +kernel)), va_Nw.of rfl (hts (.fieldLinkNest RX3 196 RX1 "outcome" "I" RX3) (by decide +kernel))⟩
theorem kS_36 : (Cond.stringRef RX3 36 "the places are not in order or out of range") ∈ lw_tbl ∧ (Cond.exactly (.string RX3 36) "java/lang/String") ∈ flatC (Jvm.Cond.and given_1 narrow_1) := by decide +kernel
theorem kS_56 : (Cond.stringRef RX3 56 "there is an item or a record") ∈ lw_tbl ∧ (Cond.exactly (.string RX3 56) "java/lang/String") ∈ flatC (Jvm.Cond.and given_1 narrow_1) := by decide +kernel
theorem kS_71 : (Cond.stringRef RX3 71 "there is no such setting") ∈ lw_tbl ∧ (Cond.exactly (.string RX3 71) "java/lang/String") ∈ flatC (Jvm.Cond.and given_1 narrow_1) := by decide +kernel
theorem kS_79 : (Cond.stringRef RX3 79 "the value is out of range") ∈ lw_tbl ∧ (Cond.exactly (.string RX3 79) "java/lang/String") ∈ flatC (Jvm.Cond.and given_1 narrow_1) := by decide +kernel
theorem kS_94 : (Cond.stringRef RX3 94 "there is no such value") ∈ lw_tbl ∧ (Cond.exactly (.string RX3 94) "java/lang/String") ∈ flatC (Jvm.Cond.and given_1 narrow_1) := by decide +kernel
theorem kS_109 : (Cond.stringRef RX3 109 "the belt is running, or there is an alarm") ∈ lw_tbl ∧ (Cond.exactly (.string RX3 109) "java/lang/String") ∈ flatC (Jvm.Cond.and given_1 narrow_1) := by decide +kernel
theorem kS_111 : (Cond.stringRef RX3 111 "the belt is not running") ∈ lw_tbl ∧ (Cond.exactly (.string RX3 111) "java/lang/String") ∈ flatC (Jvm.Cond.and given_1 narrow_1) := by decide +kernel
theorem kS_113 : (Cond.stringRef RX3 113 "there is no alarm") ∈ lw_tbl ∧ (Cond.exactly (.string RX3 113) "java/lang/String") ∈ flatC (Jvm.Cond.and given_1 narrow_1) := by decide +kernel
theorem kS_115 : (Cond.stringRef RX3 115 "the quality is out of range") ∈ lw_tbl ∧ (Cond.exactly (.string RX3 115) "java/lang/String") ∈ flatC (Jvm.Cond.and given_1 narrow_1) := by decide +kernel
theorem kS_121 : (Cond.stringRef RX3 121 "there is no room at the beginning of the belt") ∈ lw_tbl ∧ (Cond.exactly (.string RX3 121) "java/lang/String") ∈ flatC (Jvm.Cond.and given_1 narrow_1) := by decide +kernel
theorem kS_131 : (Cond.stringRef RX3 131 "there is no such item on the belt") ∈ lw_tbl ∧ (Cond.exactly (.string RX3 131) "java/lang/String") ∈ flatC (Jvm.Cond.and given_1 narrow_1) := by decide +kernel
theorem kS_134 : (Cond.stringRef RX3 134 "pulses is out of range") ∈ lw_tbl ∧ (Cond.exactly (.string RX3 134) "java/lang/String") ∈ flatC (Jvm.Cond.and given_1 narrow_1) := by decide +kernel
theorem kS_140 : (Cond.stringRef RX3 140 "the new position is not on the belt") ∈ lw_tbl ∧ (Cond.exactly (.string RX3 140) "java/lang/String") ∈ flatC (Jvm.Cond.and given_1 narrow_1) := by decide +kernel
theorem kS_152 : (Cond.stringRef RX3 152 "ticks is out of range") ∈ lw_tbl ∧ (Cond.exactly (.string RX3 152) "java/lang/String") ∈ flatC (Jvm.Cond.and given_1 narrow_1) := by decide +kernel
theorem kS_160 : (Cond.stringRef RX3 160 "there is no such status") ∈ lw_tbl ∧ (Cond.exactly (.string RX3 160) "java/lang/String") ∈ flatC (Jvm.Cond.and given_1 narrow_1) := by decide +kernel
theorem kS_165 : (Cond.stringRef RX3 165 "what is out of range") ∈ lw_tbl ∧ (Cond.exactly (.string RX3 165) "java/lang/String") ∈ flatC (Jvm.Cond.and given_1 narrow_1) := by decide +kernel
theorem kS_167 : (Cond.stringRef RX3 167 "there is no such record in the register") ∈ lw_tbl ∧ (Cond.exactly (.string RX3 167) "java/lang/String") ∈ flatC (Jvm.Cond.and given_1 narrow_1) := by decide +kernel
theorem kS_171 : (Cond.stringRef RX3 171 "there is no such index") ∈ lw_tbl ∧ (Cond.exactly (.string RX3 171) "java/lang/String") ∈ flatC (Jvm.Cond.and given_1 narrow_1) := by decide +kernel
theorem kS_174 : (Cond.stringRef RX3 174 "there is no such counter") ∈ lw_tbl ∧ (Cond.exactly (.string RX3 174) "java/lang/String") ∈ flatC (Jvm.Cond.and given_1 narrow_1) := by decide +kernel
theorem kS_185 : (Cond.stringRef RX3 185 "the speed is out of range") ∈ lw_tbl ∧ (Cond.exactly (.string RX3 185) "java/lang/String") ∈ flatC (Jvm.Cond.and given_1 narrow_1) := by decide +kernel
theorem kS_199 : (Cond.stringRef RX3 199 "the value is no byte of a text") ∈ lw_tbl ∧ (Cond.exactly (.string RX3 199) "java/lang/String") ∈ flatC (Jvm.Cond.and given_1 narrow_1) := by decide +kernel
theorem kS_201 : (Cond.stringRef RX3 201 "the text is full") ∈ lw_tbl ∧ (Cond.exactly (.string RX3 201) "java/lang/String") ∈ flatC (Jvm.Cond.and given_1 narrow_1) := by decide +kernel
theorem kS_222 : (Cond.stringRef RX3 222 "there is no saved state") ∈ lw_tbl ∧ (Cond.exactly (.string RX3 222) "java/lang/String") ∈ flatC (Jvm.Cond.and given_1 narrow_1) := by decide +kernel
theorem kS_of {k : Nat} {tx : String} (ht : ∀ w ∈ lw_tbl, w.before args s = true) (hs : ∀ w ∈ flatC (Jvm.Cond.and given_1 narrow_1), w.before args s = true) (h : (Cond.stringRef RX3 k tx) ∈ lw_tbl ∧ (Cond.exactly (.string RX3 k) "java/lang/String") ∈ flatC (Jvm.Cond.and given_1 narrow_1)) : ∃ a, vk_R RX3 k tx a s := by
  obtain ⟨a, c, cell, k1, q1, -⟩ := Cond.exactly_spec (hs _ h.2)
  exact ⟨a, vk_R.of (ht _ h.1) q1⟩
theorem kStr_at (ht : ∀ w ∈ lw_tbl, w.before args s = true) (hs : ∀ w ∈ flatC (Jvm.Cond.and given_1 narrow_1), w.before args s = true) : kStr s :=
  ⟨kS_of ht hs kS_36, kS_of ht hs kS_56, kS_of ht hs kS_71, kS_of ht hs kS_79, kS_of ht hs kS_94, kS_of ht hs kS_109, kS_of ht hs kS_111, kS_of ht hs kS_113, kS_of ht hs kS_115, kS_of ht hs kS_121, kS_of ht hs kS_131, kS_of ht hs kS_134, kS_of ht hs kS_140, kS_of ht hs kS_152, kS_of ht hs kS_160, kS_of ht hs kS_165, kS_of ht hs kS_167, kS_of ht hs kS_171, kS_of ht hs kS_174, kS_of ht hs kS_185, kS_of ht hs kS_199, kS_of ht hs kS_201, kS_of ht hs kS_222⟩
theorem kXw_at (ht : ∀ w ∈ lw_tbl, w.before args s = true) (hs : ∀ w ∈ flatC (Jvm.Cond.and given_1 narrow_1), w.before args s = true) : kXw s :=
  ⟨fun w hw => va_Nw.of (kXot1 w hw) ((kwM1 w hw).elim (ht w) (hs w)), fun w hw => va_Nw.of (kXot2 w hw) ((kwM2 w hw).elim (ht w) (hs w)), fun w hw => va_Nw.of (kXot3 w hw) ((kwM3 w hw).elim (ht w) (hs w)), fun w hw => va_Nw.of (kXot4 w hw) ((kwM4 w hw).elim (ht w) (hs w))⟩
theorem kCt_m : (∀ i ∈ ([1, 2, 3, 4] : List Int32), (Cond.castable (kXn i) (kXn i)) ∈ lw_tbl ∨ (Cond.castable (kXn i) (kXn i)) ∈ flatC (Jvm.Cond.and given_1 narrow_1)) ∧ (Cond.not (.castable (kXn 2) (kXn 1))) ∈ flatC (Jvm.Cond.and given_1 narrow_1) ∧ (Cond.not (.castable (kXn 1) (kXn 3))) ∈ flatC (Jvm.Cond.and given_1 narrow_1) := by decide +kernel
theorem kCt_at (ht : ∀ w ∈ lw_tbl, w.before args s = true) (hs : ∀ w ∈ flatC (Jvm.Cond.and given_1 narrow_1), w.before args s = true) : kCt s := by
  have h : ∀ i ∈ ([1, 2, 3, 4] : List Int32), va_Nw (.castable (kXn i) (kXn i)) s := fun i hi => va_Nw.of rfl ((kCt_m.1 i hi).elim (ht _) (hs _))
  exact ⟨⟨h 1 (by decide), h 2 (by decide), h 3 (by decide), h 4 (by decide)⟩, va_Nc.of (hs _ kCt_m.2.1), va_Nc.of (hs _ kCt_m.2.2)⟩
def kArr (nm : String) (f : Nat → Int32) : List Cond := [Cond.arrayOf (.static RX3 nm "[I") .int, Cond.eq (.length (.static RX3 nm "[I")) (.int 7)] ++ (List.range 7).map (fun j => Cond.eq (.elem (.static RX3 nm "[I") (.int (Int32.ofNat j))) (.int (f j)))
theorem kArr1 : ∀ w ∈ kArr "LEAST_SETTING" kLeast, w ∈ flatC (Jvm.Cond.and given_1 narrow_1) := by decide +kernel
theorem kArr2 : ∀ w ∈ kArr "MOST_SETTING" kMost, w ∈ flatC (Jvm.Cond.and given_1 narrow_1) := by decide +kernel
theorem kArr_at {nm : String} {f : Nat → Int32} {A : Nat → Prop} (hs : ∀ w ∈ kArr nm f, w.before args s = true) (hA : ∀ a : Nat, a < s.heap.size → ¬ A a) : ∃ t : Nat, (Term.static RX3 nm "[I").eval args s none [] s = some (.ref t) ∧ va_T .int t 7 (fun j => .int (f j)) A s s.heap := by
  refine va_Tof (by decide) (hs _ List.mem_cons_self) ?_ (fun j hj => ?_) hA
  · obtain ⟨w, h1, h2⟩ := Cond.eq_one (show (Cond.eq (.length (.static RX3 nm "[I")) (.int 7)).holds args s none s [] = true from hs _ (List.mem_cons_of_mem _ List.mem_cons_self))
    cases h2
    exact h1
  · obtain ⟨w, h1, h2⟩ := Cond.eq_one (show (Cond.eq (.elem (.static RX3 nm "[I") (.int (Int32.ofNat j))) (.int (f j))).holds args s none s [] = true from hs _ (List.mem_append_right _ (List.mem_map.mpr ⟨j, List.mem_range.mpr hj, rfl⟩)))
    cases h2
    exact h1
theorem kZ_m : (Cond.laysStatic RX3 "LEAST_SETTING" "[I") ∈ lw_tbl ∧ (Cond.laysStatic RX3 "MOST_SETTING" "[I") ∈ lw_tbl ∧ (Cond.initialized RX3) ∈ lw_tbl ∧ (Cond.laysStatic Bundle.tN "UNASSIGNED_STACK" Bundle.steD) ∈ lw_tbl ∧ (Cond.laysStatic Bundle.tN "SUPPRESSED_SENTINEL" Bundle.listD) ∈ lw_tbl ∧ (Cond.initialized Bundle.tN) ∈ lw_tbl ∧ (Cond.isRef (.static Bundle.tN "UNASSIGNED_STACK" Bundle.steD)) ∈ flatC (Jvm.Cond.and given_1 narrow_1) ∧ (Cond.isRef (.static Bundle.tN "SUPPRESSED_SENTINEL" Bundle.listD)) ∈ flatC (Jvm.Cond.and given_1 narrow_1) := by decide +kernel
theorem kSt_start (ht : ∀ w ∈ lw_tbl, w.before args s = true) (hs : ∀ w ∈ flatC (Jvm.Cond.and given_1 narrow_1), w.before args s = true) : kSt (fun q : Nat => s.heap.size ≤ q) s s.heap := by
  have hA : ∀ a : Nat, a < s.heap.size → ¬ (fun q : Nat => s.heap.size ≤ q) a := fun a h => Nat.not_le.mpr h
  obtain ⟨m1, m2, m3, m4, m5, m6, m7, m8⟩ := kZ_m
  obtain ⟨t1, e1, z1⟩ := kArr_at (fun w hw => hs w (kArr1 w hw)) hA
  obtain ⟨t2, e2, z2⟩ := kArr_at (fun w hw => hs w (kArr2 w hw)) hA
  exact ⟨⟨vx_Zqof (ht _ m4) (ht _ m6) (hs _ m7) hA, vx_Zqof (ht _ m5) (ht _ m6) (hs _ m8) hA⟩, t1, t2, va_Zref (ht _ m1) (ht _ m3) e1 hA, z1, va_Zref (ht _ m2) (ht _ m3) e2 hA, z2⟩
theorem kA_of {ty : FieldType} (h : (Cond.arrayClass ty).before args s = true) : ∃ cA, ArrOfT s cA ty ∧ s.vm.findClass ("[" ++ ty.toString) = some cA := by
  obtain ⟨c, k, comp, h1, h2, h3⟩ := Cond.arrayClass_spec h
  exact ⟨c, fun n z => ⟨fun k h => (by cases h), k, h2, comp, h3⟩, h1⟩
theorem kAO_of {C : String} (h : (Cond.arrayOver (.object C)).before args s = true) : ∃ cA, ArrOfT s cA (.object C) ∧ va_RA s cA (.object C) := by
  obtain ⟨comp, c, k, h1, h2, h3, h4, h5⟩ := Cond.arrayOver_spec h
  exact ⟨c, fun n z => ⟨fun k h => (by cases h), k, h3, comp, h4⟩, k, comp, h3, h4, h1, h5⟩
theorem kA_m : (Cond.arrayClass .int) ∈ wsL_law ∧ (Cond.arrayClass .byte) ∈ wsL_law ∧ (Cond.arrayClass .long) ∈ wsL_law ∧ (Cond.instantiable RX0 3) ∈ wsL_law ∧ (Cond.instantiable RX1 16) ∈ wsL_law ∧ (Cond.instantiable RX2 4) ∈ wsL_law ∧ (Cond.instantiable RX3 5) ∈ wsL_law ∧ (Cond.instantiable RX4 8) ∈ wsL_law := by decide +kernel
theorem kAO_m : (Cond.arrayOver (.object RX1)) ∈ lw_tbl := by decide +kernel
theorem KK_at (ht : ∀ w ∈ lw_tbl, w.before args s = true) (hs : ∀ w ∈ flatC (Jvm.Cond.and given_1 narrow_1), w.before args s = true) : ∃ (D : va_G) (cI cB cS cJ : ClassId), KK D cI cB cS cJ s := by
  have hts : ∀ w ∈ wsL_law, w.before args s = true := fun w hw => ht w (wsL_law_in w hw)
  obtain ⟨m1, m2, m3, m4, m5, m6, m7, m8⟩ := kA_m
  obtain ⟨cI, i1, i2⟩ := kA_of (hts _ m1)
  obtain ⟨cB, b1, b2⟩ := kA_of (hts _ m2)
  obtain ⟨cJ, j1, j2⟩ := kA_of (hts _ m3)
  obtain ⟨cS, s1, s2⟩ := kAO_of (ht _ kAO_m)
  obtain ⟨c0, d0, e0⟩ := u_known (C := RX0) (T := TX0) (N := 3) (n := 3) hts inlX0 (hts _ m4)
  obtain ⟨c1, d1, e1⟩ := u_known (C := RX1) (T := TX1) (N := 16) (n := 16) hts inlX1 (hts _ m5)
  obtain ⟨c2, d2, e2⟩ := u_known (C := RX2) (T := TX2) (N := 4) (n := 4) hts inlX2 (hts _ m6)
  obtain ⟨c3, d3, e3⟩ := u_known (C := RX3) (T := TX3) (N := 5) (n := 5) hts inlX3 (hts _ m7)
  obtain ⟨c4, d4, e4⟩ := u_known (C := RX4) (T := TX4) (N := 8) (n := 8) hts inlX4 (hts _ m8)
  refine ⟨(fun k => match k with | 0 => c0 | 1 => c1 | 2 => c2 | 3 => c3 | _ => c4, fun k => match k with | 0 => d0 | 1 => d1 | 2 => d2 | 3 => d3 | _ => d4), cI, cB, cS, cJ, ⟨?_, ?_⟩, kN_at ht, ⟨kStr_at ht hs, kXw_at ht hs⟩, va_AO.of (ht _ kAO_m), kCt_at ht hs⟩
  · intro k q hq
    match k, hq with
    | 0, hq => cases hq; exact e0
    | 1, hq => cases hq; exact e1
    | 2, hq => cases hq; exact e2
    | 3, hq => cases hq; exact e3
    | 4, hq => cases hq; exact e4
    | k + 5, hq => simp [vwCl] at hq
  · intro k q hq
    match k, hq with
    | 0, hq => cases hq; exact ⟨i1, i2⟩
    | 1, hq => cases hq; exact ⟨b1, b2⟩
    | 2, hq => cases hq; exact ⟨s1, s2⟩
    | 3, hq => cases hq; exact ⟨j1, j2⟩
    | k + 4, hq => simp [kty] at hq
end KST
